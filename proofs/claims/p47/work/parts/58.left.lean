/-! THE MATHEMATICS: what is left in the end, contradictions, fields that are certain. Own text. -/
theorem countP_one {α : Type} {p : α → Bool} {l : List α} (h : l.countP p = 1) {x y : α} (hx : x ∈ l) (hy : y ∈ l) (px : p x = true) (py : p y = true) : x = y := by
  rw [List.countP_eq_length_filter] at h
  obtain ⟨z, hz⟩ := List.length_eq_one_iff.mp h
  have h1 : x ∈ l.filter p := List.mem_filter.mpr ⟨hx, px⟩
  have h2 : y ∈ l.filter p := List.mem_filter.mpr ⟨hy, py⟩
  rw [hz] at h1 h2
  rw [List.mem_singleton.mp h1, List.mem_singleton.mp h2]
theorem countP_by {α : Type} (p : α → Bool) (ow : α → Nat) (n : Nat) : ∀ l : List α, (∀ x, x ∈ l → ow x < n) → l.countP p = fb_sm (fun k => l.countP (fun r => p r && decide (ow r = k))) n
  | [], _ => by
    show 0 = _
    have : ∀ n, fb_sm (fun k => ([] : List α).countP (fun r => p r && decide (ow r = k))) n = 0 := fun n => by
      induction n with
      | zero => rfl
      | succ n ih => rw [fb_sm_succ, ih]; rfl
    rw [this]
  | x :: t, h => by
    have ih := countP_by p ow n t (fun y hy => h y (List.mem_cons_of_mem _ hy))
    have hx := h x List.mem_cons_self
    have e : ∀ k, (x :: t).countP (fun r => p r && decide (ow r = k)) = t.countP (fun r => p r && decide (ow r = k)) + (if k = ow x then (if p x = true then 1 else 0) else 0) := fun k => by
      rw [List.countP_cons]
      congr 1
      by_cases q : k = ow x
      · rw [if_pos q, decide_eq_true q.symm, Bool.and_true]
      · rw [if_neg q, decide_eq_false (fun e => q e.symm), Bool.and_false]
        rfl
    rw [fb_sm_cong (fun k _ => e k), fb_sm_add, ← ih, List.countP_cons]
    congr 1
    have := fb_sm_upd (fun _ => 0) (if p x = true then 1 else 0) hx
    have h0 : fb_sm (fun _ => 0) n = 0 := by rw [fb_sm_const, Nat.mul_zero]
    rw [h0] at this
    omega
theorem fb_sm_ind (p : Nat → Bool) : ∀ n, fb_sm (fun k => if p k = true then 1 else 0) n = fb_ct p n
  | 0 => rfl
  | n + 1 => by rw [fb_sm_succ, fb_ct_succ, fb_sm_ind p n]
section G
variable {F : Nat} {nu inF fi la s : Nat → Int32} {Lf : Nat × Nat → Bool} {a : Int32 × (Nat → Int32) × (Nat → Int32) × (Nat → Int64) × (Nat → Int32)} {m : Int32 × (Nat → Int64) × (Nat → Int32) × (Nat → Int32) × (Nat → Int32)}
theorem X_countLeft (hF : 588 < F) {left : Nat → Int32} (hl : LX (XL nu inF) Lf left) : fSteps_countLeft F left = some (nI ((XL nu inF).countP Lf)) := by
  have hlen := XL_len nu inF
  obtain ⟨x, hx, e⟩ := lp0 (F := F) 588 hF (fun N i (x : Int32) => fSteps_countLeft_L4 F left N x (nI i)) (fun x => (x, nI 588)) (fun i x => x = nI (((XL nu inF).take i).countP Lf)) (a := 0) rfl
    (fun i x hi hx => by
      subst hx
      have e1 := ge588 hi
      refine ⟨_, rfl, fun N => ?_⟩
      by_cases g : i < (XL nu inF).length
      · have hr : (XL nu inF)[i]? = some (XL nu inF)[i] := List.getElem?_eq_getElem g
        generalize (XL nu inF)[i] = r at hr
        have e2 : o_rd 588 left (nI i) = some (bI (Lf r)) := by rw [o_rd_s hi (by decide), hl.1 i r hr]
        rw [List.take_succ, hr, Option.toList_some, countP_snoc]
        cases q : Lf r
        · simp only [fSteps_countLeft_L4, e1, if_false, e2, q, bI_f, Option.bind_some, if_true, Int32.add_zero, Nat.add_zero, nI_1, Bool.false_eq_true]
        · simp only [fSteps_countLeft_L4, e1, if_false, e2, q, bI_t, Option.bind_some, show ¬ (1 : Int32) = 0 by decide, if_true, nI_1]
      · have e2 : o_rd 588 left (nI i) = some 0 := by rw [o_rd_s hi (by decide), hl.2 i (by omega) hi]
        rw [List.take_of_length_le (show (XL nu inF).length ≤ i by omega), List.take_of_length_le (show (XL nu inF).length ≤ i + 1 by omega)]
        simp only [fSteps_countLeft_L4, e1, if_false, e2, Option.bind_some, if_true, Int32.add_zero, nI_1])
    (fun N x hx => by simp only [fSteps_countLeft_L4, show (588 : Int32) ≤ nI 588 from Int32.le_refl _, if_true])
  subst hx
  unfold fSteps_countLeft
  try rw [nI_0] at e
  rw [e, List.take_of_length_le hlen]
  rfl
theorem M_leftAll (hF : 588 < F) (hm : MI nu (ML nu inF) m) {over : Nat → Int32} (hl : LM (ML nu inF) Lf over) : fM_leftAll F m.1 over = some (nI ((XL nu inF).countP Lf)) := by
  have hlen := ML_len nu inF
  have hm1 := hm.1
  rw [← (ML_perm nu inF).countP_eq]
  obtain ⟨x, hx, e⟩ := lpl (F := F) (ML nu inF) (by omega) (fun N i (x : Int32) => fM_leftAll_L4 F (nI (ML nu inF).length) over N x (nI i)) (fun x => (x, nI (ML nu inF).length)) (fun l x => x = nI (l.countP Lf)) (a := 0) rfl
    (fun i r x hr hi hx => by
      subst hx
      have e1 : ¬ nI (ML nu inF).length ≤ nI i := nI_ge hi (by omega)
      have e2 : o_rd 1200 over (nI i) = some (bI (!Lf r)) := by rw [o_rd_s (by omega) (by decide), hl i r hr]
      refine ⟨_, rfl, fun N => ?_⟩
      rw [countP_snoc]
      cases q : Lf r
      · simp only [fM_leftAll_L4, e1, if_false, e2, q, Bool.not_false, bI_t, Option.bind_some, show ¬ (1 : Int32) = 0 by decide, Int32.add_zero, Nat.add_zero, nI_1, Bool.false_eq_true]
      · simp only [fM_leftAll_L4, e1, if_false, e2, q, Bool.not_true, bI_f, Option.bind_some, if_true, nI_1])
    (fun N x hx => by simp only [fM_leftAll_L4, Int32.le_refl, if_true])
  subst hx
  unfold fM_leftAll
  try rw [nI_0] at e
  rw [hm1, e]
  rfl
def lof (nu : Nat → Int32) (Lf : Nat × Nat → Bool) (c : Nat) (r : Nat × Nat) : Bool := Lf r && decide (own nu r = c)
theorem X_countLeftOf (hF : 588 < F) (ha : XI nu (XL nu inF) a) {left : Nat → Int32} (hl : LX (XL nu inF) Lf left) {c : Nat} (hc : c < 42) : fSteps_countLeftOf F (nI c) left a.1 a.2.2.2.2 = some (nI ((XL nu inF).countP (lof nu Lf c))) := by
  obtain ⟨h1, h2, h3, h4, h5⟩ := ha
  have hlen := XL_len nu inF
  obtain ⟨x, hx, e⟩ := lp0 (F := F) 588 hF (fun N i (x : Int32) => fSteps_countLeftOf_L4 F (nI c) left (nI (XL nu inF).length) a.2.2.2.2 N x (nI i)) (fun x => (x, nI 588)) (fun i x => x = nI (((XL nu inF).take i).countP (lof nu Lf c))) (a := 0) rfl
    (fun i x hi hx => by
      subst hx
      have e1 := ge588 hi
      refine ⟨_, rfl, fun N => ?_⟩
      by_cases g : i < (XL nu inF).length
      · have hr : (XL nu inF)[i]? = some (XL nu inF)[i] := List.getElem?_eq_getElem g
        generalize (XL nu inF)[i] = r at hr
        obtain ⟨-, -, ho, -, -⟩ := XL_get hr
        have e2 : o_rd 588 left (nI i) = some (bI (Lf r)) := by rw [o_rd_s hi (by decide), hl.1 i r hr]
        rw [List.take_succ, hr, Option.toList_some, countP_snoc]
        unfold lof
        cases q : Lf r
        · simp only [fSteps_countLeftOf_L4, e1, if_false, e2, q, bI_f, Option.bind_some, if_true, Int32.add_zero, Nat.add_zero, nI_1, Bool.false_eq_true, Bool.false_and]
        · by_cases q2 : own nu r = c
          · simp only [fSteps_countLeftOf_L4, e1, if_false, e2, q, bI_t, Option.bind_some, show ¬ (1 : Int32) = 0 by decide, ownerAt_s g hlen, h5 i r hr, q2, not_true_eq_false, decide_true, Bool.and_self, if_true, nI_1]
          · have q3 : ¬ nI (own nu r) = nI c := fun e => q2 (nI_inj (by omega) (by omega) e)
            simp only [fSteps_countLeftOf_L4, e1, if_false, e2, q, bI_t, Option.bind_some, show ¬ (1 : Int32) = 0 by decide, ownerAt_s g hlen, h5 i r hr, q3, q2, not_false_eq_true, decide_false, Bool.and_false, if_true, Int32.add_zero, Nat.add_zero, nI_1, Bool.false_eq_true]
      · have e2 : o_rd 588 left (nI i) = some 0 := by rw [o_rd_s hi (by decide), hl.2 i (by omega) hi]
        rw [List.take_of_length_le (show (XL nu inF).length ≤ i by omega), List.take_of_length_le (show (XL nu inF).length ≤ i + 1 by omega)]
        simp only [fSteps_countLeftOf_L4, e1, if_false, e2, Option.bind_some, if_true, Int32.add_zero, nI_1])
    (fun N x hx => by simp only [fSteps_countLeftOf_L4, show (588 : Int32) ≤ nI 588 from Int32.le_refl _, if_true])
  subst hx
  unfold fSteps_countLeftOf
  try rw [nI_0] at e
  rw [h1, e, List.take_of_length_le hlen]
  rfl
theorem M_leftIn (hF : 588 < F) (hm : MI nu (ML nu inF) m) {over : Nat → Int32} (hl : LM (ML nu inF) Lf over) {c : Nat} (hc : c < 42) : fM_leftIn F (nI c) m.1 m.2.2.1 over = some (nI ((XL nu inF).countP (lof nu Lf c))) := by
  obtain ⟨h1, h2, h3, h4, h5⟩ := hm
  have hlen := ML_len nu inF
  rw [← (ML_perm nu inF).countP_eq]
  obtain ⟨x, hx, e⟩ := lpl (F := F) (ML nu inF) (by omega) (fun N i (x : Int32) => fM_leftIn_L4 F (nI c) (nI (ML nu inF).length) m.2.2.1 over N x (nI i)) (fun x => (x, nI (ML nu inF).length)) (fun l x => x = nI (l.countP (lof nu Lf c))) (a := 0) rfl
    (fun i r x hr hi hx => by
      subst hx
      have e1 : ¬ nI (ML nu inF).length ≤ nI i := nI_ge hi (by omega)
      obtain ⟨-, hi2, -, ho, -, -⟩ := ML_get hr
      have e2 : o_rd 1200 over (nI i) = some (bI (!Lf r)) := by rw [o_rd_s (by omega) (by decide), hl i r hr]
      have e3 : o_rd 1200 m.2.2.1 (nI i) = some (nI (own nu r)) := by rw [o_rd_s (by omega) (by decide), h3 i r hr]
      refine ⟨_, rfl, fun N => ?_⟩
      rw [countP_snoc]
      unfold lof
      by_cases q2 : own nu r = c
      · cases q : Lf r
        · simp only [fM_leftIn_L4, e1, if_false, e2, e3, q, q2, Bool.not_false, bI_t, Option.bind_some, not_true_eq_false, show ¬ (1 : Int32) = 0 by decide, not_false_eq_true, if_true, Int32.add_zero, Nat.add_zero, nI_1, Bool.false_eq_true, Bool.false_and]
        · simp only [fM_leftIn_L4, e1, if_false, e2, e3, q, q2, Bool.not_true, bI_f, Option.bind_some, not_true_eq_false, decide_true, Bool.and_self, if_true, nI_1]
      · have q3 : ¬ nI (own nu r) = nI c := fun e => q2 (nI_inj (by omega) (by omega) e)
        simp only [fM_leftIn_L4, e1, if_false, e3, Option.bind_some, q3, q2, not_false_eq_true, decide_false, Bool.and_false, if_true, Int32.add_zero, Nat.add_zero, nI_1, Bool.false_eq_true])
    (fun N x hx => by simp only [fM_leftIn_L4, Int32.le_refl, if_true])
  subst hx
  unfold fM_leftIn
  try rw [nI_0] at e
  rw [h1, e]
  rfl
/-! contradictions -/
def Con (nu inF : Nat → Int32) (Lf : Nat × Nat → Bool) : Prop := (∃ k, k < 42 ∧ nu k ≠ 0 ∧ inF k = 0 ∧ ∀ j, j < 42 → Sm nu (XL nu inF) Lf k j = false) ∨ ∃ j, j < 42 ∧ inF j = 0 ∧ ∀ k, k < 42 → Sm nu (XL nu inF) Lf k j = false
noncomputable def con (nu inF : Nat → Int32) (Lf : Nat × Nat → Bool) : Bool := @decide (Con nu inF Lf) (Classical.propDecidable _)
theorem con_iff : con nu inF Lf = true ↔ Con nu inF Lf := by
  unfold con
  exact @decide_eq_true_iff _ (Classical.propDecidable _)
theorem Sm_free {k j : Nat} (hj : j < 42) (h : Sm nu (XL nu inF) Lf k j = true) : inF j = 0 := by
  obtain ⟨r, h1, -, -, h4⟩ := Sm_iff.mp h
  exact OKfree (mem_XL.mp h1).2 hj h4
theorem X_con (hF : 42 < F) {s1 : Nat → Int64} (hs : ∀ k, k < 42 → s1 k = cset (Sm nu (XL nu inF) Lf k)) : fSteps_endsInContradiction F s1 (cset (fun k => !decide (inF k ≠ 0))) (cset (fun k => decide (nu k ≠ 0) && !decide (inF k ≠ 0))) = some (bI (con nu inF Lf)) := by
  have hany := X_any (F := F) hF hs
  have hopen : (cset (fun j => decide (0 < fb_ct (fun k => Sm nu (XL nu inF) Lf k j) 42)) = cset (fun k => !decide (inF k ≠ 0))) ↔ ¬ ∃ j, j < 42 ∧ inF j = 0 ∧ ∀ k, k < 42 → Sm nu (XL nu inF) Lf k j = false := by
    constructor
    · rintro h ⟨j, hj, h1, h2⟩
      have := cset_inj h hj
      rw [decide_eq_false (not_not_intro h1), fb_ct_zero.mpr h2] at this
      cases this
    · intro h
      refine cset_cong (fun j hj => ?_)
      by_cases q : inF j = 0
      · rw [decide_eq_false (not_not_intro q), Bool.not_false, decide_eq_true_eq, fb_ct_pos]
        apply Classical.byContradiction
        intro c
        exact h ⟨j, hj, q, fun k hk => ts_nt (fun e => c ⟨k, hk, e⟩)⟩
      · rw [decide_eq_true q, Bool.not_true, decide_eq_false_iff_not]
        intro c
        obtain ⟨k, hk, e⟩ := fb_ct_pos.mp c
        exact q (Sm_free hj e)
  obtain ⟨z, hz, e⟩ := lsr 42 (fun N i (_ : Unit) => fSteps_endsInContradiction_L2 F s1 (cset (fun k => !decide (inF k ≠ 0))) (cset (fun k => decide (nu k ≠ 0) && !decide (inF k ≠ 0))) N (nI i)) (fun i _ => ∀ k, k < i → nu k ≠ 0 → inF k = 0 → ∃ j, j < 42 ∧ Sm nu (XL nu inF) Lf k j = true) (fun z => z = bI (con nu inF Lf))
    (fun i _ hi hx => by
      have e1 := ge42 hi
      by_cases q : nu i ≠ 0 ∧ inF i = 0
      · have e2 : tb (cset (fun k => decide (nu k ≠ 0) && !decide (inF k ≠ 0))) i = true := by
          rw [tb_cset' _ hi, decide_eq_true q.1, decide_eq_false (not_not_intro q.2)]
          rfl
        by_cases q2 : cset (Sm nu (XL nu inF) Lf i) = 0
        · refine Or.inl ⟨1, ?_, fun N => ?_⟩
          · rw [con_iff.mpr (Or.inl ⟨i, hi, q.1, q.2, (cset_0 _).mp q2⟩)]
            rfl
          · simp only [fSteps_endsInContradiction_L2, e1, if_false, fX_has_s hi, e2, Option.bind_some, if_true, show ¬ (1 : Int32) = 0 by decide, o_rd_s hi (show 42 < 2 ^ 31 by decide), hs i hi, q2, not_true_eq_false]
        · refine Or.inr ⟨(), fun k hk h1 h2 => ?_, fun N => ?_⟩
          · by_cases e : k = i
            · subst e; exact (cset_n0 _).mp q2
            · exact hx k (by omega) h1 h2
          · simp only [fSteps_endsInContradiction_L2, e1, if_false, fX_has_s hi, e2, Option.bind_some, if_true, show ¬ (1 : Int32) = 0 by decide, o_rd_s hi (show 42 < 2 ^ 31 by decide), hs i hi, q2, not_false_eq_true, nI_1]
      · have e2 : tb (cset (fun k => decide (nu k ≠ 0) && !decide (inF k ≠ 0))) i = false := by
          rw [tb_cset' _ hi]
          by_cases h1 : nu i ≠ 0
          · rw [decide_eq_true (show inF i ≠ 0 from fun e => q ⟨h1, e⟩), Bool.not_true, Bool.and_false]
          · rw [decide_eq_false h1, Bool.false_and]
        refine Or.inr ⟨(), fun k hk h1 h2 => ?_, fun N => ?_⟩
        · by_cases e : k = i
          · subst e; exact absurd ⟨h1, h2⟩ q
          · exact hx k (by omega) h1 h2
        · simp only [fSteps_endsInContradiction_L2, e1, if_false, fX_has_s hi, e2, Option.bind_some, if_true, nI_1, Bool.false_eq_true])
    (fun N _ hx => by
      have hno : ¬ ∃ k, k < 42 ∧ nu k ≠ 0 ∧ inF k = 0 ∧ ∀ j, j < 42 → Sm nu (XL nu inF) Lf k j = false := by
        rintro ⟨k, hk, h1, h2, h3⟩
        obtain ⟨j, hj, e⟩ := hx k hk h1 h2
        rw [h3 j hj] at e
        cases e
      by_cases q : ∃ j, j < 42 ∧ inF j = 0 ∧ ∀ k, k < 42 → Sm nu (XL nu inF) Lf k j = false
      · refine ⟨1, by rw [con_iff.mpr (Or.inr q)]; rfl, ?_⟩
        have q2 := (not_congr hopen).mpr (not_not_intro q)
        simp only [fSteps_endsInContradiction_L2, le42, if_true, hany, Option.bind_some, q2, if_false]
      · refine ⟨0, ?_, ?_⟩
        · rw [ts_nt (fun e => (con_iff.mp e).elim hno q)]
          rfl
        · simp only [fSteps_endsInContradiction_L2, le42, if_true, hany, Option.bind_some, hopen.mpr q]) 42 0 F () (by decide) hF (fun k hk => by omega)
  unfold fSteps_endsInContradiction
  try rw [nI_0] at e
  rw [e, hz]
theorem BR.s0 (h : BR nu inF fi la s 0) {k : Nat} (hk : k < 42) : (s (42 + k) = 0) = (inF k = 0) := by
  have h1 := h.fld hk
  rw [Nat.zero_add] at h1
  rcases h.inF hk with e | e
  · obtain ⟨-, -, h0 | h0⟩ := h k hk
    · rw [Nat.zero_add] at h0
      rw [h0.2, e]
    · rw [h0.1] at e; cases e
  · rw [e] at h1
    have h2 : ¬ s (42 + k) ≤ 0 := by rw [← h1]; decide
    refine propext ⟨fun c => ?_, fun c => ?_⟩
    · rw [c] at h2
      exact absurd (Int32.le_refl _) h2
    · rw [e] at c; cases c
theorem BR.n0 (h : BR nu inF fi la s 0) {k : Nat} (hk : k < 42) : (s k ≤ 0) = (nu k = 0) := by
  have h1 := h.num hk
  rw [Nat.zero_add] at h1
  have h2 := congrArg Not h1
  simpa using h2.symm
theorem M_con (hF : 42 < F) (h : BR nu inF fi la s 0) {s1 : Nat → Int64} (hs : ∀ k, k < 42 → s1 k = cset (Sm nu (XL nu inF) Lf k)) : fM_isAgainst F s s1 = some (bI (con nu inF Lf)) := by
  obtain ⟨x, ⟨hx1, hx2⟩, e⟩ := lp0 (F := F) 42 hF (fun N i (x : Int64 × Int32) => fM_isAgainst_L10 F s s1 N x.1 x.2 (nI i)) (fun x => (x.1, x.2, nI 42)) (fun i x => x.1 = cset (fun j => decide (inF j ≠ 0) || decide (0 < fb_ct (fun k => Sm nu (XL nu inF) Lf k j) i)) ∧ x.2 = bI (decide (0 < fb_ct (fun k => decide (nu k ≠ 0) && (decide (inF k = 0) && decide (cset (Sm nu (XL nu inF) Lf k) = 0))) i))) (a := (Tk inF, 0)) ⟨cset_cong (fun j _ => by simp [fb_ct]), rfl⟩
    (fun k x hk hx => by
      obtain ⟨x1, x2⟩ := x
      obtain ⟨g1, g2⟩ := hx
      simp only at g1 g2
      subst g1
      subst g2
      have e5 : o_rd 42 s1 (nI k) = some (cset (Sm nu (XL nu inF) Lf k)) := by rw [o_rd_s hk (by decide), hs k hk]
      have e6 : o_rd 84 s (nI k) = some (s k) := o_rd_s (by omega) (by decide)
      have e7 : o_rd 84 s (nI (42 + k)) = some (s (42 + k)) := o_rd_s (by omega) (by decide)
      refine ⟨(cset (fun j => decide (inF j ≠ 0) || decide (0 < fb_ct (fun k => Sm nu (XL nu inF) Lf k j) k)) ||| cset (Sm nu (XL nu inF) Lf k), bI (decide (0 < fb_ct (fun k => decide (nu k ≠ 0) && (decide (inF k = 0) && decide (cset (Sm nu (XL nu inF) Lf k) = 0))) (k + 1)))), ⟨?_, ?_⟩, fun N => ?_⟩
      · show cset _ ||| cset _ = _
        rw [cset_or]
        refine cset_cong (fun j _ => ?_)
        rw [fb_ct_succ]
        cases Sm nu (XL nu inF) Lf k j <;> simp
      · rfl
      · have hb : ∀ n (c : Bool), decide (0 < n + (if c = true then 1 else 0)) = (decide (0 < n) || c) := fun n c => by
          cases c <;> simp
        rw [fb_ct_succ, hb]
        generalize decide (0 < fb_ct (fun k => decide (nu k ≠ 0) && (decide (inF k = 0) && decide (cset (Sm nu (XL nu inF) Lf k) = 0))) k) = b
        have n0 := h.n0 hk
        have f0 := h.s0 hk
        cases b with
        | true => simp only [fM_isAgainst_L10, ge42 hk, if_false, e5, Option.bind_some, bI_t, show ¬ (1 : Int32) = 0 by decide, not_false_eq_true, if_true, Bool.true_or, nI_1]
        | false =>
          by_cases q1 : nu k = 0
          · simp only [fM_isAgainst_L10, ge42 hk, if_false, e5, e6, Option.bind_some, bI_f, not_true_eq_false, n0, q1, ne_eq, decide_false, if_true, Bool.false_and, Bool.or_self, nI_1]
          · by_cases q2 : inF k = 0
            · by_cases q3 : cset (Sm nu (XL nu inF) Lf k) = 0
              · simp only [fM_isAgainst_L10, ge42 hk, if_false, e5, e6, e7, a42, Option.bind_some, bI_f, bI_t, not_true_eq_false, n0, f0, q1, q2, q3, ne_eq, not_false_eq_true, decide_true, if_true, Bool.and_self, Bool.or_true, nI_1]
              · simp only [fM_isAgainst_L10, ge42 hk, if_false, e5, e6, e7, a42, Option.bind_some, bI_f, not_true_eq_false, n0, f0, q1, q2, q3, ne_eq, not_false_eq_true, decide_true, decide_false, if_true, Bool.and_false, Bool.or_self, nI_1]
            · simp only [fM_isAgainst_L10, ge42 hk, if_false, e5, e6, e7, a42, Option.bind_some, bI_f, not_true_eq_false, n0, f0, q1, q2, ne_eq, not_false_eq_true, decide_true, decide_false, if_true, Bool.and_false, Bool.false_and, Bool.or_self, nI_1])
    (fun N x hx => by simp only [fM_isAgainst_L10, le42, if_true])
  have k1 : (decide (0 < fb_ct (fun k => decide (nu k ≠ 0) && (decide (inF k = 0) && decide (cset (Sm nu (XL nu inF) Lf k) = 0))) 42) = true) ↔ ∃ k, k < 42 ∧ nu k ≠ 0 ∧ inF k = 0 ∧ ∀ j, j < 42 → Sm nu (XL nu inF) Lf k j = false := by
    rw [decide_eq_true_eq, fb_ct_pos]
    constructor
    · rintro ⟨k, hk, e⟩
      rw [Bool.and_eq_true, Bool.and_eq_true, decide_eq_true_eq, decide_eq_true_eq, decide_eq_true_eq, cset_0] at e
      exact ⟨k, hk, e⟩
    · rintro ⟨k, hk, e⟩
      refine ⟨k, hk, ?_⟩
      rw [Bool.and_eq_true, Bool.and_eq_true, decide_eq_true_eq, decide_eq_true_eq, decide_eq_true_eq, cset_0]
      exact e
  have k2 : x.1 = (4398046511103 : Int64) ↔ ¬ ∃ j, j < 42 ∧ inF j = 0 ∧ ∀ k, k < 42 → Sm nu (XL nu inF) Lf k j = false := by
    rw [hx1]
    show _ = ALL ↔ _
    rw [ALL_cs]
    constructor
    · rintro h ⟨j, hj, h1, h2⟩
      have := cset_inj h hj
      rw [decide_eq_false (not_not_intro h1), fb_ct_zero.mpr h2] at this
      cases this
    · intro h
      refine cset_cong (fun j hj => ?_)
      by_cases q : inF j = 0
      · rw [decide_eq_false (not_not_intro q), Bool.false_or, decide_eq_true_eq, fb_ct_pos]
        apply Classical.byContradiction
        intro c
        exact h ⟨j, hj, q, fun k hk => ts_nt (fun e => c ⟨k, hk, e⟩)⟩
      · rw [decide_eq_true q, Bool.true_or]
  unfold fM_isAgainst
  rw [taken_e hF h, Option.bind_some]
  rw [show (fM_isAgainst_L10 F s s1 F (Tk inF) 0 0) = some (x.1, x.2, nI 42) from e, Option.bind_some]
  simp only [hx2]
  by_cases q : ∃ k, k < 42 ∧ nu k ≠ 0 ∧ inF k = 0 ∧ ∀ j, j < 42 → Sm nu (XL nu inF) Lf k j = false
  · rw [k1.mpr q, con_iff.mpr (Or.inl q), if_pos (by decide)]
    rfl
  · rw [ts_nt (fun e => q (k1.mp e)), if_neg (by decide)]
    by_cases q2 : ∃ j, j < 42 ∧ inF j = 0 ∧ ∀ k, k < 42 → Sm nu (XL nu inF) Lf k j = false
    · rw [if_neg (fun e => k2.mp e q2), con_iff.mpr (Or.inr q2)]
      rfl
    · rw [if_pos (k2.mpr q2), ts_nt (fun e => (con_iff.mp e).elim q q2)]
      rfl
/-! certain -/
def one (nu inF : Nat → Int32) (Lf : Nat × Nat → Bool) (c : Nat) : Bool := decide ((XL nu inF).countP (lof nu Lf c) = 1)
theorem nI_is1 {n : Nat} (h : n < 2 ^ 31) : (nI n = (1 : Int32)) = (n = 1) := propext (nI_eq (b := 1) h (by decide))
theorem cnt_lt (p : Nat × Nat → Bool) : (XL nu inF).countP p < 2 ^ 31 := by have := cnt588 nu inF p; omega
theorem X_countCertain (hF : 588 < F) (ha : XI nu (XL nu inF) a) {left : Nat → Int32} (hl : LX (XL nu inF) Lf left) : fSteps_countCertain F left a.1 a.2.2.2.2 = some (nI (fb_ct (one nu inF Lf) 42)) := by
  obtain ⟨x, hx, e⟩ := lp0 (F := F) 42 (by omega) (fun N i (x : Int32) => fSteps_countCertain_L4 F left a.1 a.2.2.2.2 N x (nI i)) (fun x => (x, nI 42)) (fun i x => x = nI (fb_ct (one nu inF Lf) i)) (a := 0) rfl
    (fun i x hi hx => by
      subst hx
      refine ⟨_, rfl, fun N => ?_⟩
      rw [fb_ct_succ]
      unfold one
      by_cases q : (XL nu inF).countP (lof nu Lf i) = 1
      · simp only [fSteps_countCertain_L4, ge42 hi, if_false, X_countLeftOf hF ha hl hi, Option.bind_some, nI_is1 (cnt_lt _), q, show nI 1 = (1 : Int32) from rfl, not_true_eq_false, decide_true, if_true, if_false, nI_1]
      · simp only [fSteps_countCertain_L4, ge42 hi, if_false, X_countLeftOf hF ha hl hi, Option.bind_some, nI_is1 (cnt_lt _), q, not_false_eq_true, decide_false, if_true, Int32.add_zero, Nat.add_zero, nI_1, Bool.false_eq_true])
    (fun N x hx => by simp only [fSteps_countCertain_L4, le42, if_true])
  subst hx
  unfold fSteps_countCertain
  try rw [nI_0] at e
  rw [e]
  rfl
theorem X_firstCertain (hF : 588 < F) (ha : XI nu (XL nu inF) a) {left : Nat → Int32} (hl : LX (XL nu inF) Lf left) : fSteps_firstCertain F left a.1 a.2.2.2.2 = some (nI (fa_first (one nu inF Lf) 42)) := by
  obtain ⟨z, hz, e⟩ := lsr 42 (fun N i (_ : Unit) => fSteps_firstCertain_L2 F left a.1 a.2.2.2.2 N (nI i)) (fun i _ => ∀ k, k < i → one nu inF Lf k = false) (fun z => z = nI (fa_first (one nu inF Lf) 42))
    (fun i _ hi hx => by
      by_cases q : (XL nu inF).countP (lof nu Lf i) = 1
      · refine Or.inl ⟨_, rfl, fun N => ?_⟩
        rw [first_of hi (by unfold one; exact decide_eq_true q) hx]
        simp only [fSteps_firstCertain_L2, ge42 hi, if_false, X_countLeftOf hF ha hl hi, Option.bind_some, nI_is1 (cnt_lt _), q, show nI 1 = (1 : Int32) from rfl, not_true_eq_false, if_false]
      · refine Or.inr ⟨(), fun k hk => ?_, fun N => ?_⟩
        · by_cases e : k = i
          · subst e; unfold one; exact decide_eq_false q
          · exact hx k (by omega)
        · simp only [fSteps_firstCertain_L2, ge42 hi, if_false, X_countLeftOf hF ha hl hi, Option.bind_some, nI_is1 (cnt_lt _), q, not_false_eq_true, if_true, nI_1])
    (fun N _ hx => by
      refine ⟨_, rfl, ?_⟩
      have h42 : fa_first (one nu inF Lf) 42 = 42 := by
        have h1 := fa_first_le (one nu inF Lf) 42
        by_cases e : fa_first (one nu inF Lf) 42 < 42
        · have := fa_first_yes (one nu inF Lf) 42 e
          rw [hx _ e] at this
          cases this
        · omega
      rw [h42]
      simp only [fSteps_firstCertain_L2, le42, if_true]
      rfl) 42 0 F () (by decide) (by omega) (fun k hk => by omega)
  unfold fSteps_firstCertain
  try rw [nI_0] at e
  rw [e, hz]
theorem one_own {c : Nat} (h : (XL nu inF).countP (lof nu Lf c) = 1) : nu c ≠ 0 ∧ inF c = 0 := by
  have hp : 0 < (XL nu inF).countP (lof nu Lf c) := by omega
  obtain ⟨r, hr, e⟩ := List.countP_pos_iff.mp hp
  unfold lof at e
  rw [Bool.and_eq_true, decide_eq_true_eq] at e
  obtain ⟨-, rfl⟩ := e
  have hok := (mem_XL.mp hr).2
  exact ⟨(OKown hok).2.2.1, OKfree hok (OKown hok).1 (OKown hok).2.1⟩
theorem M_isSure (hF : 588 < F) (h : BR nu inF fi la s 0) (hm : MI nu (ML nu inF) m) {over : Nat → Int32} (hl : LM (ML nu inF) Lf over) {c : Nat} (hc : c < 42) : fM_isSure F (nI c) s m.1 m.2.2.1 over = some (bI (one nu inF Lf c)) := by
  have e6 : o_rd 84 s (nI c) = some (s c) := o_rd_s (by omega) (by decide)
  have e7 : o_rd 84 s (nI (42 + c)) = some (s (42 + c)) := o_rd_s (by omega) (by decide)
  have n0 := h.n0 hc
  have f0 := h.s0 hc
  unfold fM_isSure one
  rw [e6, Option.bind_some]
  by_cases q : (XL nu inF).countP (lof nu Lf c) = 1
  · obtain ⟨g1, g2⟩ := one_own q
    simp only [n0, g1, if_false, a42, e7, Option.bind_some, f0, g2, not_true_eq_false, M_leftIn hF hm hl hc, nI_is1 (cnt_lt _), q, decide_true]
    rfl
  · rw [decide_eq_false q, bI_f]
    by_cases q1 : nu c = 0
    · simp only [n0, q1, if_true]
    · by_cases q2 : inF c = 0
      · simp only [n0, q1, if_false, a42, e7, Option.bind_some, f0, q2, not_true_eq_false, M_leftIn hF hm hl hc, nI_is1 (cnt_lt _), q, not_false_eq_true, if_true]
      · simp only [n0, q1, if_false, a42, e7, Option.bind_some, f0, q2, not_false_eq_true, if_true]
theorem M_sure (hF : 588 < F) (h : BR nu inF fi la s 0) (hm : MI nu (ML nu inF) m) {over : Nat → Int32} (hl : LM (ML nu inF) Lf over) : fM_sure F s m.1 m.2.2.1 over = some (nI (fb_ct (one nu inF Lf) 42)) := by
  obtain ⟨x, hx, e⟩ := lp0 (F := F) 42 (by omega) (fun N i (x : Int32) => fM_sure_L4 F s m.1 m.2.2.1 over N x (nI i)) (fun x => (x, nI 42)) (fun i x => x = nI (fb_ct (one nu inF Lf) i)) (a := 0) rfl
    (fun i x hi hx => by
      subst hx
      refine ⟨_, rfl, fun N => ?_⟩
      rw [fb_ct_succ]
      cases q : one nu inF Lf i
      · simp only [fM_sure_L4, ge42 hi, if_false, M_isSure hF h hm hl hi, q, bI_f, Option.bind_some, if_true, Int32.add_zero, Nat.add_zero, nI_1, Bool.false_eq_true]
      · simp only [fM_sure_L4, ge42 hi, if_false, M_isSure hF h hm hl hi, q, bI_t, Option.bind_some, show ¬ (1 : Int32) = 0 by decide, if_true, nI_1])
    (fun N x hx => by simp only [fM_sure_L4, le42, if_true])
  subst hx
  unfold fM_sure
  try rw [nI_0] at e
  rw [e]
  rfl
theorem M_firstSure (hF : 588 < F) (h : BR nu inF fi la s 0) (hm : MI nu (ML nu inF) m) {over : Nat → Int32} (hl : LM (ML nu inF) Lf over) : fM_firstSure F s m.1 m.2.2.1 over = some (if fa_first (one nu inF Lf) 42 < 42 then nI (fa_first (one nu inF Lf) 42) else -1) := by
  obtain ⟨z, hz, e⟩ := lsr 42 (fun N i (_ : Unit) => fM_firstSure_L2 F s m.1 m.2.2.1 over N (nI i)) (fun i _ => ∀ k, k < i → one nu inF Lf k = false) (fun z => z = (if fa_first (one nu inF Lf) 42 < 42 then nI (fa_first (one nu inF Lf) 42) else -1))
    (fun i _ hi hx => by
      cases q : one nu inF Lf i with
      | true =>
        refine Or.inl ⟨_, rfl, fun N => ?_⟩
        rw [first_of hi q hx, if_pos hi]
        simp only [fM_firstSure_L2, ge42 hi, if_false, M_isSure hF h hm hl hi, q, bI_t, Option.bind_some, show ¬ (1 : Int32) = 0 by decide]
      | false =>
        refine Or.inr ⟨(), fun k hk => ?_, fun N => ?_⟩
        · by_cases e : k = i
          · subst e; exact q
          · exact hx k (by omega)
        · simp only [fM_firstSure_L2, ge42 hi, if_false, M_isSure hF h hm hl hi, q, bI_f, Option.bind_some, if_true, nI_1])
    (fun N _ hx => by
      refine ⟨_, rfl, ?_⟩
      have h42 : ¬ fa_first (one nu inF Lf) 42 < 42 := fun e => by
        have := fa_first_yes (one nu inF Lf) 42 e
        rw [hx _ e] at this
        cases this
      rw [if_neg h42]
      simp only [fM_firstSure_L2, le42, if_true]) 42 0 F () (by decide) (by omega) (fun k hk => by omega)
  unfold fM_firstSure
  try rw [nI_0] at e
  rw [e, hz]
end G
