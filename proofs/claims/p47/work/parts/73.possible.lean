/-! p47, THE MATHEMATICS: the law's check of what is possible, its end. Own text. -/
section LQ
variable {F : Nat} {nu inF fi la : Nat → Int32} {D : List (Nat × Nat)} {ef el : Nat → Int32} {ec : Nat → Int64} {k R : Nat}
/-- the numbers that are in no field -/
def onu (nu inF : Nat → Int32) (i : Nat) : Nat := fb_ct (fun k => decide (nu k ≠ 0) && !decide (inF k ≠ 0)) i
theorem apo1 (hn : NV nu) (hb : inF k = 0 ∨ inF k = 1) (hk : k < 42) (N : Nat) (l6 : Int32) : fPaddockFieldsLaw_arePossibleSo_L243 F inF nu (N + 1) l6 (nI k) = fPaddockFieldsLaw_arePossibleSo_L243 F inF nu N (l6 + nI (if (decide (nu k ≠ 0) && !decide (inF k ≠ 0)) = true then 1 else 0)) (nI k + 1) := by
  have e1 := ge42 hk
  have e2 : fX_numberAt (nI k / 7) (nI k - nI k / 7 * 7) nu = some (nu k) := numberAt_c hk (cck_s hk)
  have e3 : fX_isInField (nI k / 7) (nI k - nI k / 7 * 7) inF = some (inF k) := isInField_c hk (cck_s hk) hb
  obtain ⟨v, hv, e⟩ := hn k hk
  by_cases q : v = 0
  · have c : nu k ≤ 0 := by rw [e, q, nI_0]; exact Int32.le_refl 0
    have c0 : nu k = 0 := by rw [e, q, nI_0]
    have c2 : ¬ (decide (nu k ≠ 0) && !decide (inF k ≠ 0)) = true := by
      rw [decide_eq_false (not_not_intro c0), Bool.false_and]; decide
    rw [if_neg c2, nI_0]
    simp only [fPaddockFieldsLaw_arePossibleSo_L243, e1, if_false, e2, Option.bind_some, c, if_true]
  · have c : ¬ nu k ≤ 0 := by rw [e]; exact nI_nle (Nat.pos_of_ne_zero q) (by omega)
    have c0 : nu k ≠ 0 := by rw [e]; exact nI_ne0 (Nat.pos_of_ne_zero q) (by omega)
    rcases hb with g | g
    · have c2 : (decide (nu k ≠ 0) && !decide (inF k ≠ 0)) = true := by
        rw [decide_eq_true c0, decide_eq_false (not_not_intro g)]; rfl
      rw [if_pos c2]
      simp only [fPaddockFieldsLaw_arePossibleSo_L243, e1, if_false, e2, Option.bind_some, c, e3, g, not_true_eq_false]
      rfl
    · have c2 : ¬ (decide (nu k ≠ 0) && !decide (inF k ≠ 0)) = true := by
        rw [decide_eq_true (show inF k ≠ 0 by rw [g]; exact one_n0)]
        cases decide (nu k ≠ 0) <;> decide
      rw [if_neg c2, nI_0]
      simp only [fPaddockFieldsLaw_arePossibleSo_L243, e1, if_false, e2, Option.bind_some, c, e3, g, one_n0, not_false_eq_true, if_true]
theorem apo_L (hF : 42 < F) (hn : NV nu) (hb : ∀ k, k < 42 → inF k = 0 ∨ inF k = 1) : fPaddockFieldsLaw_arePossibleSo_L243 F inF nu F 0 0 = some (nI (onu nu inF 42), nI 42) := by
  obtain ⟨z, -, e⟩ := lp0 (F := F) 42 hF (fun N i (_ : Unit) => fPaddockFieldsLaw_arePossibleSo_L243 F inF nu N (nI (onu nu inF i)) (nI i)) (fun _ => (nI (onu nu inF 42), nI 42)) (fun _ _ => True) (a := ()) trivial
    (fun i a hi _ => by
      refine ⟨(), trivial, fun N => ?_⟩
      have st := apo1 (F := F) hn (hb i hi) hi N (nI (onu nu inF i))
      have p : nI (onu nu inF i) + nI (if (decide (nu i ≠ 0) && !decide (inF i ≠ 0)) = true then 1 else 0) = nI (onu nu inF (i + 1)) := by
        unfold onu
        rw [nI_add, fb_ct_succ]
      rw [p, nI_1] at st
      exact st)
    (fun N a _ => by simp only [fPaddockFieldsLaw_arePossibleSo_L243, le42, if_true])
  exact e
theorem meanPossible_e (hF : 588 < F) (hE : EV ef el ec) (nu inF : Nat → Int32) (c0 : Int32) (f0 l0 : Nat → Int32) (s0 : Nat → Int64) (o0 : Nat → Int32) : ∃ z, fX_meanPossible F inF nu c0 ec ef f0 el l0 s0 o0 = some (if onu nu inF 42 = 0 then FP.dconst0 else mv (XL nu inF).length (onu nu inF 42), z) := by
  obtain ⟨a, ha, ea⟩ := find_s hF hE nu inF c0 f0 l0 s0 o0
  have h42 : onu nu inF 42 ≤ 42 := fb_ct_le _ _
  have hb : fJ_bitCount (cset (fun k => decide (nu k ≠ 0) && !decide (inF k ≠ 0))) = nI (onu nu inF 42) := bc_cset _
  unfold fX_meanPossible
  rw [ea, Option.bind_some, openNumbers_e (by omega), Option.bind_some, hb]
  by_cases q : onu nu inF 42 = 0
  · rw [q, if_pos (show nI 0 ≤ (0 : Int32) by decide), if_pos rfl]
    exact ⟨_, rfl⟩
  · have h0 : 0 < onu nu inF 42 := Nat.pos_of_ne_zero q
    rw [if_neg (nI_nle h0 (by omega)), if_neg q]
    unfold fRectangles_size
    rw [Option.bind_some, ha.1, show FP.ddiv (FP.i2d (nI (XL nu inF).length)) (FP.i2d (nI (onu nu inF 42))) = mv (XL nu inF).length (onu nu inF 42) from rfl, (mean_ok (XL_len nu inF) h0 h42).1, Option.bind_some]
    exact ⟨_, rfl⟩
theorem arePossibleSo_s (hF : 1200 < F) (hE : EV ef el ec) (h : FB nu inF fi la D) (c0 : Int32) (f0 l0 : Nat → Int32) (s0 : Nat → Int64) (o0 : Nat → Int32) (op0 nm0 : Int64) (lf0 : Nat → Int32) (rd0 : Int32) (is0 ia0 : Nat → Int64) : ∃ z, fPaddockFieldsLaw_arePossibleSo F inF nu c0 ec ef f0 el l0 s0 o0 op0 nm0 lf0 rd0 is0 ia0 = some (1, z) := by
  obtain ⟨-, R, -, -, -, -, hR, -⟩ := xrun_s hF hE nu inF c0 f0 l0 s0 o0 op0 nm0 lf0 rd0 is0 ia0
  obtain ⟨z, e⟩ := aps_L hF hE h.1 hR c0 f0 l0 s0 o0 op0 nm0 lf0 rd0 is0 ia0
  obtain ⟨z1, e1⟩ := possible_e (F := F) (by omega) hE nu inF z.1 z.2.1 z.2.2.1 z.2.2.2.1 z.2.2.2.2.1
  obtain ⟨z2, e2⟩ := leftInTheEnd_e hF hE hR z1.1 z1.2.1 z1.2.2.1 z1.2.2.2.1 z1.2.2.2.2 z.2.2.2.2.2.1 z.2.2.2.2.2.2.1 z.2.2.2.2.2.2.2.1 z.2.2.2.2.2.2.2.2.1 z.2.2.2.2.2.2.2.2.2.1 z.2.2.2.2.2.2.2.2.2.2
  obtain ⟨z3, e3, hR588⟩ := rounds_e hF hE hR z2.1 z2.2.1 z2.2.2.1 z2.2.2.2.1 z2.2.2.2.2.1 z2.2.2.2.2.2.1 z2.2.2.2.2.2.2.1 z2.2.2.2.2.2.2.2.1 z2.2.2.2.2.2.2.2.2.1 z2.2.2.2.2.2.2.2.2.2.1 z2.2.2.2.2.2.2.2.2.2.2
  have e4 := apo_L (F := F) (by omega) h.1 h.bit
  obtain ⟨z5, e5⟩ := meanPossible_e (F := F) (by omega) hE nu inF z3.1 z3.2.1 z3.2.2.1 z3.2.2.2.1 z3.2.2.2.2.1
  obtain ⟨z6, e6⟩ := meanPossible_e (F := F) (by omega) hE nu inF z5.1 z5.2.1 z5.2.2.1 z5.2.2.2.1 z5.2.2.2.2
  have h42 : onu nu inF 42 ≤ 42 := fb_ct_le _ _
  have hlen := XL_len nu inF
  have hcnt := cnt588 nu inF (rit nu inF R)
  have b1 : nI R = (0 : Int32) ↔ nI ((XL nu inF).countP (rit nu inF R)) = nI (XL nu inF).length := by
    constructor
    · intro c
      have : R = 0 := nI_inj (by omega) (by decide) (c.trans nI_0.symm)
      rw [(RT_zero hR).mp this]
    · intro c
      have : R = 0 := (RT_zero hR).mpr (nI_inj (by omega) (by omega) c)
      rw [this, nI_0]
  unfold fPaddockFieldsLaw_arePossibleSo
  rw [e, Option.bind_some]
  dsimp only
  rw [if_neg one_n0, e1, Option.bind_some]
  dsimp only
  rw [if_neg (not_not_intro rfl), e2, Option.bind_some]
  dsimp only
  rw [if_neg (not_not_intro rfl), if_neg (not_not_intro rfl), e3, Option.bind_some]
  dsimp only
  by_cases c : nI R = (0 : Int32)
  · have c' := b1.mp c
    rw [if_neg (not_not_intro c), Option.bind_some, if_neg (not_not_intro c'), Option.bind_some, if_neg (not_not_intro rfl), e4, Option.bind_some]
    dsimp only
    by_cases q : onu nu inF 42 = 0
    · rw [q] at e5 ⊢
      rw [if_pos rfl] at e5
      rw [if_neg (not_not_intro nI_0), e5, Option.bind_some]
      dsimp only
      rw [mean_0, if_neg (not_not_intro rfl), Option.bind_some]
      exact ⟨_, rfl⟩
    · obtain ⟨m1, m2, m3, m4⟩ := mean_ok hlen (Nat.pos_of_ne_zero q) h42
      rw [if_neg q] at e5 e6
      rw [if_pos (nI_ne0 (Nat.pos_of_ne_zero q) (by omega)), e5, Option.bind_some]
      dsimp only
      rw [show FP.dmul (mv (XL nu inF).length (onu nu inF 42)) (FP.i2d (nI (onu nu inF 42))) = mw (XL nu inF).length (onu nu inF 42) from rfl, m2, Option.bind_some, m3, if_neg (show ¬ (1 : Int32) ≤ 0 by decide), e6, Option.bind_some]
      dsimp only
      rw [show FP.dmul (mv (XL nu inF).length (onu nu inF 42)) (FP.i2d (nI (onu nu inF 42))) = mw (XL nu inF).length (onu nu inF 42) from rfl, m2, Option.bind_some, m4, if_neg (show ¬ (0 : Int32) ≤ -1 by decide), Option.bind_some]
      exact ⟨_, rfl⟩
  · have c' : ¬ nI ((XL nu inF).countP (rit nu inF R)) = nI (XL nu inF).length := fun x => c (b1.mpr x)
    rw [if_pos c, Option.bind_some, if_pos c', Option.bind_some, if_neg (not_not_intro rfl), e4, Option.bind_some]
    dsimp only
    by_cases q : onu nu inF 42 = 0
    · rw [q] at e5 ⊢
      rw [if_pos rfl] at e5
      rw [if_neg (not_not_intro nI_0), e5, Option.bind_some]
      dsimp only
      rw [mean_0, if_neg (not_not_intro rfl), Option.bind_some]
      exact ⟨_, rfl⟩
    · obtain ⟨m1, m2, m3, m4⟩ := mean_ok hlen (Nat.pos_of_ne_zero q) h42
      rw [if_neg q] at e5 e6
      rw [if_pos (nI_ne0 (Nat.pos_of_ne_zero q) (by omega)), e5, Option.bind_some]
      dsimp only
      rw [show FP.dmul (mv (XL nu inF).length (onu nu inF 42)) (FP.i2d (nI (onu nu inF 42))) = mw (XL nu inF).length (onu nu inF 42) from rfl, m2, Option.bind_some, m3, if_neg (show ¬ (1 : Int32) ≤ 0 by decide), e6, Option.bind_some]
      dsimp only
      rw [show FP.dmul (mv (XL nu inF).length (onu nu inF 42)) (FP.i2d (nI (onu nu inF 42))) = mw (XL nu inF).length (onu nu inF 42) from rfl, m2, Option.bind_some, m4, if_neg (show ¬ (0 : Int32) ≤ -1 by decide), Option.bind_some]
      exact ⟨_, rfl⟩
end LQ
