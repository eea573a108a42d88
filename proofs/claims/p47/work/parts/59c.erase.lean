/-! THE MATHEMATICS: fields taken away. Own text. -/
theorem removeFields_s {F : Nat} (hF : 42 < F) (inF : Nat → Int32) : ∃ i', fBoard_removeFields F inF = some i' ∧ ∀ k, k < 42 → i' k = 0 := by
  obtain ⟨b, hb, e⟩ := lp0 42 hF (fun N i (b : Nat → Int32) => fBoard_removeFields_L2 F N (nI i) b) (fun b => (nI 42, b)) (fun i b => ∀ k, k < i → b k = 0) (a := inF)
    (fun k hk => by omega)
    (fun i b hi hb => by
      have e1 := ge42 hi
      refine ⟨upd b i 0, fun k hk => ?_, fun N => ?_⟩
      · by_cases q : k = i
        · subst q; rw [upd_at]
        · rw [upd_off _ _ q]; exact hb k (by omega)
      · simp only [fBoard_removeFields_L2, e1, if_false, o_wrZ_s0 hi (show 42 < 2 ^ 31 by decide), Option.bind_some, nI_1])
    (fun N b hb => by simp only [fBoard_removeFields_L2, le42, if_true])
  refine ⟨b, ?_, hb⟩
  unfold fBoard_removeFields
  try rw [nI_0] at e
  rw [e]
  rfl
theorem meraseAll_L_s {F : Nat} (hF : 42 < F) (s : Nat → Int32) : ∃ t, fM_eraseAll_L16 F F (nI 0) s = some (nI 42, t) ∧ (∀ k, k < 42 → t (42 + k) = 0) ∧ ∀ k, (k < 42 ∨ 84 ≤ k) → t k = s k := by
  obtain ⟨b, hb, e⟩ := lp0 42 hF (fun N i (b : Nat → Int32) => fM_eraseAll_L16 F N (nI i) b) (fun b => (nI 42, b)) (fun i b => (∀ k, k < i → b (42 + k) = 0) ∧ ∀ k, (k < 42 ∨ 84 ≤ k) → b k = s k) (a := s)
    ⟨fun k hk => by omega, fun k _ => rfl⟩
    (fun i b hi hb => by
      have e1 := ge42 hi
      refine ⟨upd b (42 + i) 0, ⟨fun k hk => ?_, fun k hk => ?_⟩, fun N => ?_⟩
      · by_cases q : k = i
        · subst q; rw [upd_at]
        · rw [upd_off _ _ (by omega)]; exact hb.1 k (by omega)
      · rw [upd_off _ _ (by omega)]; exact hb.2 k hk
      · simp only [fM_eraseAll_L16, e1, if_false, a42, o_wrI_s (show 42 + i < 84 by omega) (show 84 < 2 ^ 31 by decide), Option.bind_some, nI_1])
    (fun N b hb => by simp only [fM_eraseAll_L16, le42, if_true])
  exact ⟨b, e, hb⟩
theorem BR.clear {nu inF fi la s i' t : Nat → Int32} (h : BR nu inF fi la s 0) (h1 : ∀ k, k < 42 → i' k = 0) (h2 : ∀ k, k < 42 → t (42 + k) = 0) (h3 : ∀ k, (k < 42 ∨ 84 ≤ k) → t k = s k) : BR nu i' fi la t 0 := fun k hk => by
  obtain ⟨hv, hs, -⟩ := h k hk
  rw [Nat.zero_add] at hs
  refine ⟨hv, ?_, Or.inl ⟨h1 k hk, ?_⟩⟩
  · rw [Nat.zero_add, h3 k (Or.inl hk)]; exact hs
  · rw [Nat.zero_add]; exact h2 k hk
theorem removeField_s {F : Nat} (hF : 42 < F) {inF fi : Nat → Int32} {c : Nat} (hc : c < 42) (hb : ∀ k, k < 42 → inF k = 0 ∨ inF k = 1) : ∃ i', fBoard_removeField F (nI c) fi inF = some i' ∧ ∀ k, k < 42 → i' k = if fi k = fi c then 0 else inF k := by
  obtain ⟨b, hb2, e⟩ := lp0 42 hF (fun N i (b : Nat → Int32) => fBoard_removeField_L8 F (fi c) fi N (nI i) b) (fun b => (nI 42, b)) (fun i b => ∀ k, b k = if k < i ∧ k < 42 ∧ fi k = fi c then 0 else inF k) (a := inF)
    (fun k => by rw [if_neg (fun e => by omega)])
    (fun i b hi hb2 => by
      have e1 := ge42 hi
      have hbi : b i = inF i := by rw [hb2 i, if_neg (fun e => by omega)]
      by_cases q0 : inF i = 0
      · refine ⟨b, fun k => ?_, fun N => ?_⟩
        · rw [hb2 k]
          by_cases q : k = i
          · subst q
            rw [if_neg (fun e => by omega), q0]
            split <;> rfl
          · have : (k < i + 1 ∧ k < 42 ∧ fi k = fi c) ↔ (k < i ∧ k < 42 ∧ fi k = fi c) := by
              constructor <;> (intro z; exact ⟨by omega, z.2⟩)
            simp only [this]
        · simp only [fBoard_removeField_L8, e1, if_false, o_rd_s hi (show 42 < 2 ^ 31 by decide), hbi, Option.bind_some, q0, if_true, nI_1]
      · by_cases q1 : fi i = fi c
        · refine ⟨upd b i 0, fun k => ?_, fun N => ?_⟩
          · by_cases q : k = i
            · subst q
              rw [upd_at, if_pos ⟨by omega, hi, q1⟩]
            · rw [upd_off _ _ q, hb2 k]
              have : (k < i + 1 ∧ k < 42 ∧ fi k = fi c) ↔ (k < i ∧ k < 42 ∧ fi k = fi c) := by
                constructor <;> (intro z; exact ⟨by omega, z.2⟩)
              simp only [this]
          · simp only [fBoard_removeField_L8, e1, if_false, o_rd_s hi (show 42 < 2 ^ 31 by decide), hbi, Option.bind_some, q0, q1, not_true_eq_false, o_wrZ_s0 hi (show 42 < 2 ^ 31 by decide), nI_1]
        · refine ⟨b, fun k => ?_, fun N => ?_⟩
          · rw [hb2 k]
            by_cases q : k = i
            · subst q
              rw [if_neg (fun e => by omega), if_neg (fun e => q1 e.2.2)]
            · have : (k < i + 1 ∧ k < 42 ∧ fi k = fi c) ↔ (k < i ∧ k < 42 ∧ fi k = fi c) := by
                constructor <;> (intro z; exact ⟨by omega, z.2⟩)
              simp only [this]
          · simp only [fBoard_removeField_L8, e1, if_false, o_rd_s hi (show 42 < 2 ^ 31 by decide), hbi, Option.bind_some, q0, q1, not_false_eq_true, if_true, nI_1])
    (fun N b hb2 => by simp only [fBoard_removeField_L8, le42, if_true])
  refine ⟨b, ?_, fun k hk => ?_⟩
  · unfold fBoard_removeField
    try rw [nI_0] at e
    rw [firstOfField_s hc, Option.bind_some, e]
    rfl
  · rw [hb2 k]
    have : (k < 42 ∧ k < 42 ∧ fi k = fi c) ↔ (fi k = fi c) := ⟨fun z => z.2.2, fun z => ⟨hk, hk, z⟩⟩
    simp only [this]
theorem merase_L_s {F : Nat} (hF : 42 < F) (x : Int64) (s : Nat → Int32) : ∃ t, fM_erase_L30 F x F (nI 0) s = some (nI 42, t) ∧ (∀ k, k < 42 → t (42 + k) = if tb x k = true then 0 else s (42 + k)) ∧ ∀ k, (k < 42 ∨ 84 ≤ k) → t k = s k := by
  obtain ⟨t, ht, e⟩ := lp0 42 hF (fun N i (t : Nat → Int32) => fM_erase_L30 F x N (nI i) t) (fun t => (nI 42, t)) (fun i t => (∀ k, k < 42 → t (42 + k) = if tb x k = true ∧ k < i then 0 else s (42 + k)) ∧ ∀ k, (k < 42 ∨ 84 ≤ k) → t k = s k) (a := s)
    ⟨fun k _ => by rw [if_neg (fun e => absurd e.2 (by omega))], fun k _ => rfl⟩
    (fun i t hi ht => by
      have e1 := ge42 hi
      have e2 : o_rd 84 t (nI (42 + i)) = some (t (42 + i)) := o_rd_s (by omega) (by decide)
      have e3 : ∀ v, o_wrI 84 t (nI (42 + i)) v = some (upd t (42 + i) v) := fun v => o_wrI_s (by omega) (by decide)
      refine ⟨upd t (42 + i) (if tb x i = true then 0 else t (42 + i)), ⟨fun k hk => ?_, fun k hk => ?_⟩, fun N => ?_⟩
      · by_cases q : k = i
        · subst q
          rw [upd_at]
          by_cases h : tb x k = true
          · rw [if_pos h, if_pos ⟨h, by omega⟩]
          · rw [if_neg h, if_neg (fun e => h e.1), ht.1 k hk, if_neg (fun e => h e.1)]
        · rw [upd_off _ _ (by omega), ht.1 k hk]
          have : (tb x k = true ∧ k < i + 1) ↔ (tb x k = true ∧ k < i) := by
            constructor <;> (intro z; exact ⟨z.1, by omega⟩)
          simp only [this]
      · rw [upd_off _ _ (by omega)]
        exact ht.2 k hk
      · by_cases h : tb x i = true
        · simp only [fM_erase_L30, e1, if_false, fM_has_s (show i < 64 by omega), Option.bind_some, h, if_true, show ¬ (1 : Int32) = 0 by decide, a42, e3, nI_1]
        · simp only [fM_erase_L30, e1, if_false, fM_has_s (show i < 64 by omega), Option.bind_some, h, if_true, a42, e2, e3, nI_1, Bool.false_eq_true])
    (fun N t ht => by simp only [fM_erase_L30, le42, if_true])
  refine ⟨t, e, fun k hk => ?_, ht.2⟩
  rw [ht.1 k hk]
  have : (tb x k = true ∧ k < 42) ↔ (tb x k = true) := ⟨fun z => z.1, fun z => ⟨z, hk⟩⟩
  simp only [this]
/-- the field of a cell taken away: the two agree again -/
theorem BR.remove {nu inF fi la s i' t : Nat → Int32} (h : BR nu inF fi la s 0) {c : Nat} (hc : c < 42) (hf : inF c = 1) (h1 : ∀ k, k < 42 → i' k = if fi k = fi c then 0 else inF k) (h2 : ∀ k, k < 42 → t (42 + k) = if s (42 + k) = s (42 + c) then 0 else s (42 + k)) (h3 : ∀ k, (k < 42 ∨ 84 ≤ k) → t k = s k) : BR nu i' fi la t 0 := fun k hk => by
  obtain ⟨a, b, hr, hi, ha, hb, hs, hj, hk2⟩ := h.field hc hf
  obtain ⟨hv, hs1, hf1⟩ := h k hk
  rw [Nat.zero_add] at hs1 hf1
  refine ⟨hv, by rw [Nat.zero_add, h3 k (Or.inl hk)]; exact hs1, ?_⟩
  rw [Nat.zero_add, h1 k hk, h2 k hk]
  by_cases q : s (42 + k) = s (42 + c)
  · have hin := (hk2 k hk).mp q
    have hj1 := hj k hin
    rw [if_pos (by rw [hj1.2.1, ha]), if_pos q]
    exact Or.inl ⟨rfl, rfl⟩
  · rw [if_neg q]
    rcases hf1 with hf1 | ⟨hf1, a', b', gr, gi, ga, gb, gs, gj⟩
    · left
      refine ⟨?_, hf1.2⟩
      rw [hf1.1]
      split <;> rfl
    · right
      have hne : ¬ nI a' = fi c := fun e => by
        rw [ha] at e
        have r1 := gr
        have r2 := hr
        unfold RC at r1 r2
        have e2 : a' = a := nI_inj (by omega) (by omega) e
        exact q (by rw [gs, hs, e2])
      rw [ga, if_neg hne]
      refine ⟨hf1, a', b', gr, gi, rfl, gb, gs, fun j hj3 => ?_⟩
      obtain ⟨g1, g2, g3⟩ := gj j hj3
      rw [h1 j (IN_lt gr hj3), g2, if_neg hne]
      exact ⟨g1, rfl, g3⟩
