/-! p47, THE MATHEMATICS: the law's check of all fields. Own text. -/
section LF
variable {F : Nat} {nu inF fi la : Nat → Int32} {D : List (Nat × Nat)} {ef el : Nat → Int32} {ec : Nat → Int64} {k : Nat}
/-- 1 for a number, 0 for none -/
def pn (nu : Nat → Int32) (k : Nat) : Int32 := if nu k ≤ 0 then 0 else 1
theorem pn_e (hn : NV nu) (hk : k < 42) : pn nu k = nI (if decide (nu k ≠ 0) = true then 1 else 0) := by
  obtain ⟨v, hv, e⟩ := hn k hk
  unfold pn
  rw [e]
  by_cases q : v = 0
  · rw [q, nI_0, if_pos (Int32.le_refl 0), if_neg (by decide), nI_0]
  · have h0 : ¬ nI v ≤ 0 := nI_nle (Nat.pos_of_ne_zero q) (by omega)
    have h1 : nI v ≠ 0 := nI_ne0 (Nat.pos_of_ne_zero q) (by omega)
    rw [if_neg h0, if_pos (decide_eq_true h1)]
    rfl
theorem cfo_0 (hk : k < 42) (h : inF k = 1) : cfo nu inF k = 0 := by
  unfold cfo
  rw [List.countP_eq_zero]
  intro r hr e
  have e2 : own nu r = k := of_decide_eq_true e
  obtain ⟨o1, o2, -, -⟩ := OKown (mem_XL.mp hr).2
  have := OKfree (mem_XL.mp hr).2 o1 o2
  rw [e2, h] at this
  exact one_n0 this
theorem af0 (hk : k < 42) (h0 : inF k = 0) (N : Nat) (l1 l2 l3 l4 l5 l6 c0 : Int32) (f0 l0 : Nat → Int32) (s0 : Nat → Int64) (o0 : Nat → Int32) : fPaddockFieldsLaw_areFieldsSo_L18 F nu inF fi la ec ef el (N + 1) l1 l2 l3 l4 l5 l6 (nI k) c0 f0 l0 s0 o0 = fPaddockFieldsLaw_areFieldsSo_L18 F nu inF fi la ec ef el N (l1 + 1) l2 (l3 + pn nu k) (l4 + nu k) l5 l6 (nI k + 1) c0 f0 l0 s0 o0 := by
  have e1 := ge42 hk
  have e2 : fX_numberAt (nI k / 7) (nI k - nI k / 7 * 7) nu = some (nu k) := numberAt_c hk (cck_s hk)
  have e3 : fX_isInField (nI k / 7) (nI k - nI k / 7 * 7) inF = some 0 := by rw [isInField_c hk (cck_s hk) (Or.inl h0), h0]
  by_cases c : nu k ≤ 0
  · simp only [fPaddockFieldsLaw_areFieldsSo_L18, e1, if_false, e2, Option.bind_some, e3, if_true, pn, c]
  · simp only [fPaddockFieldsLaw_areFieldsSo_L18, e1, if_false, e2, Option.bind_some, e3, if_true, pn, c]
theorem af1 (hF : 588 < F) (hE : EV ef el ec) (h : FB nu inF fi la D) (hk : k < 42) {r : Nat × Nat} (hr : r ∈ D) (hi : inb r.1 r.2 k = true) (l1 l2 l3 l4 l5 c0 : Int32) (f0 l0 : Nat → Int32) (s0 : Nat → Int64) (o0 : Nat → Int32) : ∃ z : Int32 × (Nat → Int32) × (Nat → Int32) × (Nat → Int64) × (Nat → Int32), ∀ N, fPaddockFieldsLaw_areFieldsSo_L18 F nu inF fi la ec ef el (N + 1) l1 l2 l3 l4 l5 1 (nI k) c0 f0 l0 s0 o0 = fPaddockFieldsLaw_areFieldsSo_L18 F nu inF fi la ec ef el N l1 (l2 + (if fi k = nI k then 1 else 0)) (l3 + pn nu k) (l4 + nu k) (l5 + nu k) 1 (nI k + 1) z.1 z.2.1 z.2.2.1 z.2.2.2.1 z.2.2.2.2 := by
  obtain ⟨g1, g2, g3⟩ := (h.2.2.2 k hk).1 r hr hi
  have hrc := (h.2.1 r hr).1
  have hr1 := hrc.1
  have hle : r.1 ≤ k := (inb_iff.mp hi).1
  obtain ⟨z, ez⟩ := possibleFor_c hF hE hk (cck_s hk) c0 f0 l0 s0 o0 (nu := nu) (inF := inF)
  rw [cfo_0 hk g1, nI_0] at ez
  have e1 := ge42 hk
  have e2 : fX_numberAt (nI k / 7) (nI k - nI k / 7 * 7) nu = some (nu k) := numberAt_c hk (cck_s hk)
  have e3 : fX_isInField (nI k / 7) (nI k - nI k / 7 * 7) inF = some 1 := by rw [isInField_c hk (cck_s hk) (Or.inr g1), g1]
  have e4 := cornerOf_c h hk (cck_s hk) hr hi
  have e5 := cornerOf_c h hr1 (cck_s hr1) hr (inb_iff.mpr (IN_a hrc))
  have e6 := fieldSize_c h hr1 (cck_s hr1) hr (inb_iff.mpr (IN_a hrc))
  have e7 := fieldSize_c h hk (cck_s hk) hr hi
  have e8 : ¬ nI k < nI r.1 := nI_nlt hle (by omega)
  have e8k : ¬ nI k < nI k := nI_nlt (Nat.le_refl k) (by omega)
  have e9 : ¬ (1 : Int32) = 0 := one_n0
  have e10 : nu k = 0 ∨ nu k = nI (sz r) := by
    by_cases q : nu k = 0
    · exact Or.inl q
    · have := (FDown (h.2.1 r hr)).2.2.2 k hk hi q
      exact Or.inr (by rw [this]; exact (h.2.1 r hr).2.2)
  refine ⟨z, fun N => ?_⟩
  rw [g2]
  by_cases c1 : nI r.1 = nI k
  · by_cases c2 : nu k = 0
    · simp only [fPaddockFieldsLaw_areFieldsSo_L18, e1, if_false, e2, Option.bind_some, e3, e4, e5, e6, e7, e8, e8k, e9, ez, if_true, pn, c1, c2, not_true_eq_false, Int32.le_refl]
    · have e11 : nu k = nI (sz r) := e10.resolve_left c2
      have c2' : ¬ nI (sz r) = 0 := by rw [← e11]; exact c2
      by_cases c3 : nI (sz r) ≤ 0
      · simp only [fPaddockFieldsLaw_areFieldsSo_L18, e1, if_false, e2, Option.bind_some, e3, e4, e5, e6, e7, e8, e8k, e9, ez, if_true, pn, c1, c2', c3, e11, not_true_eq_false]
      · simp only [fPaddockFieldsLaw_areFieldsSo_L18, e1, if_false, e2, Option.bind_some, e3, e4, e5, e6, e7, e8, e8k, e9, ez, if_true, pn, c1, c2', c3, e11, not_true_eq_false]
  · by_cases c2 : nu k = 0
    · simp only [fPaddockFieldsLaw_areFieldsSo_L18, e1, if_false, e2, Option.bind_some, e3, e4, e5, e6, e7, e8, e8k, e9, ez, if_true, pn, c1, c2, not_true_eq_false, not_false_eq_true, Int32.le_refl]
    · have e11 : nu k = nI (sz r) := e10.resolve_left c2
      have c2' : ¬ nI (sz r) = 0 := by rw [← e11]; exact c2
      by_cases c3 : nI (sz r) ≤ 0
      · simp only [fPaddockFieldsLaw_areFieldsSo_L18, e1, if_false, e2, Option.bind_some, e3, e4, e5, e6, e7, e8, e8k, e9, ez, if_true, pn, c1, c2', c3, e11, not_true_eq_false, not_false_eq_true]
      · simp only [fPaddockFieldsLaw_areFieldsSo_L18, e1, if_false, e2, Option.bind_some, e3, e4, e5, e6, e7, e8, e8k, e9, ez, if_true, pn, c1, c2', c3, e11, not_true_eq_false, not_false_eq_true]
/-- how many cells are in no field -/
def oct (inF : Nat → Int32) (i : Nat) : Nat := fb_ct (fun k => !decide (inF k ≠ 0)) i
def fsm (nu inF : Nat → Int32) (i : Nat) : Nat := fb_sm (fun k => if inF k = 0 then 0 else nv (nu k)) i
theorem afs_L (hF : 588 < F) (hE : EV ef el ec) (h : FB nu inF fi la D) (c0 : Int32) (f0 l0 : Nat → Int32) (s0 : Nat → Int64) (o0 : Nat → Int32) : ∃ z : Int32 × (Nat → Int32) × (Nat → Int32) × (Nat → Int64) × (Nat → Int32), fPaddockFieldsLaw_areFieldsSo_L18 F nu inF fi la ec ef el F 0 0 0 0 0 1 0 c0 f0 l0 s0 o0 = some (nI (oct inF 42), nI (fb_ct (crn inF fi) 42), nI (cnu nu), nI (fb_sm (fun k => nv (nu k)) 42), nI (fsm nu inF 42), 1, nI 42, z) := by
  obtain ⟨z, -, e⟩ := lp0 (F := F) 42 (by omega) (fun N i (a : Int32 × (Nat → Int32) × (Nat → Int32) × (Nat → Int64) × (Nat → Int32)) => fPaddockFieldsLaw_areFieldsSo_L18 F nu inF fi la ec ef el N (nI (oct inF i)) (nI (fb_ct (crn inF fi) i)) (nI (fb_ct (fun k => decide (nu k ≠ 0)) i)) (nI (fb_sm (fun k => nv (nu k)) i)) (nI (fsm nu inF i)) 1 (nI i) a.1 a.2.1 a.2.2.1 a.2.2.2.1 a.2.2.2.2) (fun a => (nI (oct inF 42), nI (fb_ct (crn inF fi) 42), nI (fb_ct (fun k => decide (nu k ≠ 0)) 42), nI (fb_sm (fun k => nv (nu k)) 42), nI (fsm nu inF 42), (1 : Int32), nI 42, a)) (fun _ _ => True) (a := (c0, f0, l0, s0, o0)) trivial
    (fun i a hi _ => by
      have p3 : nI (fb_ct (fun k => decide (nu k ≠ 0)) i) + pn nu i = nI (fb_ct (fun k => decide (nu k ≠ 0)) (i + 1)) := by rw [pn_e h.1 hi, nI_add, fb_ct_succ]
      have p4 : nI (fb_sm (fun k => nv (nu k)) i) + nu i = nI (fb_sm (fun k => nv (nu k)) (i + 1)) := by
        rw [fb_sm_succ, ← nI_add, ← (h.1.get hi).1]
      rcases h.cell hi with ⟨e0, -⟩ | ⟨e1, r, hr, hir, e2, -⟩
      · refine ⟨a, trivial, fun N => ?_⟩
        have p1 : nI (oct inF i) + 1 = nI (oct inF (i + 1)) := by
          unfold oct
          rw [fb_ct_succ, if_pos (by rw [decide_eq_false (not_not_intro e0)]; rfl), nI_1]
        have p2 : fb_ct (crn inF fi) (i + 1) = fb_ct (crn inF fi) i := by
          rw [fb_ct_succ, if_neg (fun c => (of_decide_eq_true c).1 e0), Nat.add_zero]
        have p5 : fsm nu inF (i + 1) = fsm nu inF i := by
          unfold fsm
          rw [fb_sm_succ, if_pos e0, Nat.add_zero]
        have st := af0 (F := F) (nu := nu) (fi := fi) (la := la) (ef := ef) (el := el) (ec := ec) hi e0 N (nI (oct inF i)) (nI (fb_ct (crn inF fi) i)) (nI (fb_ct (fun k => decide (nu k ≠ 0)) i)) (nI (fb_sm (fun k => nv (nu k)) i)) (nI (fsm nu inF i)) 1 a.1 a.2.1 a.2.2.1 a.2.2.2.1 a.2.2.2.2
        rw [p1, p3, p4, nI_1] at st
        show _ = fPaddockFieldsLaw_areFieldsSo_L18 F nu inF fi la ec ef el N (nI (oct inF (i + 1))) (nI (fb_ct (crn inF fi) (i + 1))) _ _ (nI (fsm nu inF (i + 1))) 1 _ a.1 a.2.1 a.2.2.1 a.2.2.2.1 a.2.2.2.2
        rw [p2, p5]
        exact st
      · obtain ⟨z, ez⟩ := af1 hF hE h hi hr hir (nI (oct inF i)) (nI (fb_ct (crn inF fi) i)) (nI (fb_ct (fun k => decide (nu k ≠ 0)) i)) (nI (fb_sm (fun k => nv (nu k)) i)) (nI (fsm nu inF i)) a.1 a.2.1 a.2.2.1 a.2.2.2.1 a.2.2.2.2
        refine ⟨z, trivial, fun N => ?_⟩
        have n0 : inF i ≠ 0 := by rw [e1]; exact one_n0
        have p1 : oct inF (i + 1) = oct inF i := by
          unfold oct
          rw [fb_ct_succ, if_neg (by rw [decide_eq_true n0]; decide), Nat.add_zero]
        have p2 : nI (fb_ct (crn inF fi) i) + (if fi i = nI i then 1 else 0) = nI (fb_ct (crn inF fi) (i + 1)) := by
          rw [fb_ct_succ]
          by_cases c : fi i = nI i
          · rw [if_pos c, if_pos (show crn inF fi i = true from decide_eq_true ⟨n0, c⟩), nI_1]
          · rw [if_neg c, if_neg (fun c2 => c (of_decide_eq_true c2).2), Int32.add_zero, Nat.add_zero]
        have p5 : nI (fsm nu inF i) + nu i = nI (fsm nu inF (i + 1)) := by
          unfold fsm
          rw [fb_sm_succ, if_neg n0, ← nI_add, ← (h.1.get hi).1]
        have st := ez N
        rw [p2, p3, p4, p5, nI_1] at st
        show _ = fPaddockFieldsLaw_areFieldsSo_L18 F nu inF fi la ec ef el N (nI (oct inF (i + 1))) _ _ _ _ 1 _ z.1 z.2.1 z.2.2.1 z.2.2.2.1 z.2.2.2.2
        rw [p1]
        exact st)
    (fun N a _ => by simp only [fPaddockFieldsLaw_areFieldsSo_L18, le42, if_true])
  exact ⟨z, e⟩
theorem areFieldsSo_s (hF : 588 < F) (hE : EV ef el ec) (h : FB nu inF fi la D) (c0 : Int32) (f0 l0 : Nat → Int32) (s0 : Nat → Int64) (o0 : Nat → Int32) : ∃ z, fPaddockFieldsLaw_areFieldsSo F nu inF fi la c0 ec ef f0 el l0 s0 o0 = some (1, z) := by
  obtain ⟨z, e⟩ := afs_L hF hE h c0 f0 l0 s0 o0
  have hF2 : 42 < F := by omega
  have q1 : oct inF 42 = 42 - cif inF := by
    have := fb_ct_not (fun k => decide (inF k ≠ 0)) 42
    unfold oct cif
    omega
  have q2 := cif_le inF
  have q3 : fsm nu inF 42 = cif inF := (h.nums).trans h.size.symm
  have q4 : (42 : Int32) - nI (42 - cif inF) = nI (cif inF) := by
    rw [show (42 : Int32) = nI 42 from rfl, nI_sub (by omega), show 42 - (42 - cif inF) = cif inF by omega]
  have q5 : ¬ nI (cnu nu) < nI (fb_ct (crn inF fi) 42) := nI_nlt (by rw [h.fields]; exact h.le) (by have := fb_ct_le (fun k => decide (nu k ≠ 0)) 42; unfold cnu; omega)
  unfold fPaddockFieldsLaw_areFieldsSo
  rw [e, Option.bind_some]
  simp only
  rw [if_neg one_n0, openCells_e hF2, Option.bind_some, q1, if_neg (not_not_intro rfl), fields_e hF2 h, Option.bind_some, h.fields, if_neg (not_not_intro rfl), numbers_e hF2, Option.bind_some, if_neg (not_not_intro rfl), sum_e hF2 h.1, Option.bind_some, if_neg (not_not_intro rfl), q4, q3, if_neg (not_not_intro rfl), isFull_e hF2, Option.bind_some]
  rw [h.fields] at q5
  by_cases c : cif inF = 42
  · have c2 : nI (42 - cif inF) = (0 : Int32) := by rw [c]; exact nI_0
    rw [if_neg (not_not_intro c2), Option.bind_some, if_pos c, if_neg (not_not_intro rfl), if_neg q5]
    exact ⟨_, rfl⟩
  · have c2 : ¬ nI (42 - cif inF) = (0 : Int32) := nI_ne0 (by omega) (by omega)
    rw [if_pos c2, Option.bind_some, if_neg c, if_neg (not_not_intro rfl), if_neg q5]
    exact ⟨_, rfl⟩
end LF
