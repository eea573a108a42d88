/-! THE MATHEMATICS: the mean, the case. Own text. -/
section CMe
variable {F L i : Nat} {xs nu inF fi la s : Nat → Int32} {arr : Nat → Int64} {th : Int32} {ef el : Nat → Int32} {ec : Nat → Int64}
theorem cmp_self {x : UInt64} (h : MN x) : Op.cmpValue (FP.dcmp x x) .l = (0 : Int32) := by
  rcases h with rfl | ⟨c, q, h, hq1, hq2, rfl⟩
  · decide +kernel
  · have hQ : QR q := by unfold QR; omega
    rw [cmp_dd h hQ (val_dd h hQ), cmpI_eq rfl]
    rfl
theorem mean_both (hF : 1200 < F) (h : BR nu inF fi la s 0) {n : Nat} (hn : n ≤ 588) : ∃ x, MN x ∧
    (if fJ_bitCount (cset (fun k => decide (nu k ≠ 0) && !decide (inF k ≠ 0))) ≤ (0 : Int32) then some FP.dconst0 else o_nn (FP.ddiv (FP.i2d (nI n)) (FP.i2d (fJ_bitCount (cset (fun k => decide (nu k ≠ 0) && !decide (inF k ≠ 0))))))) = some x ∧ fM_mean F s (nI n) = some x := by
  have e0 : Nm nu &&& (Tk inF ^^^ (-1)) = cset (fun k => decide (nu k ≠ 0) && !decide (inF k ≠ 0)) := by
    unfold Nm
    rw [and_not]
    exact cset_cong (fun k hk => by unfold Tk; rw [tb_cset' _ hk])
  unfold fM_mean
  rw [numbered_e (F := F) (by omega) h, taken_e (F := F) (by omega) h, Option.bind_some, Option.bind_some, e0, bits_cset (by omega), Option.bind_some, bc_cset]
  have hc : fb_ct (fun k => decide (nu k ≠ 0) && !decide (inF k ≠ 0)) 42 ≤ 42 := fb_ct_le _ _
  generalize fb_ct (fun k => decide (nu k ≠ 0) && !decide (inF k ≠ 0)) 42 = c at hc
  by_cases q : c = 0
  · subst q
    exact ⟨FP.dconst0, Or.inl (by decide +kernel), by rw [if_pos (by decide)], by rw [if_neg (by decide)]⟩
  · obtain ⟨x, x1, x2⟩ := mean_s (m := n) (n := c) (by omega) (by omega) (by omega)
    have q1 : ¬ nI c ≤ (0 : Int32) := nI_nle (by omega) (by omega)
    have q2 : ¬ nI c = (0 : Int32) := fun e => q (nI_inj (by omega) (b := 0) (by decide) e)
    rw [if_neg q1, if_pos q2, x1]
    exact ⟨x, x2, rfl, rfl⟩
variable (countX : Int32) (firstX lastX : Nat → Int32) (cellsX : Nat → Int64) (ownerX : Nat → Int32) (manyM : Int32) (tableM : Nat → Int32) (cellsM : Nat → Int64) (ownerM codeM : Nat → Int32)
theorem X_mean (hF : 1200 < F) (hE : EV ef el ec) (h : BR nu inF fi la s 0) : ∃ (x : UInt64) (a : Int32 × (Nat → Int32) × (Nat → Int32) × (Nat → Int64) × (Nat → Int32)), MN x ∧ XI nu (XL nu inF) a ∧ fX_meanPossible F inF nu countX ec ef firstX el lastX cellsX ownerX = some (x, a.1, a.2.1, a.2.2.1, a.2.2.2.1, a.2.2.2.2) ∧ fM_mean F s (nI (ML nu inF).length) = some x := by
  obtain ⟨a, a1, a2⟩ := find_s (F := F) (by omega) hE nu inF countX firstX lastX cellsX ownerX
  obtain ⟨x, x1, x2, x3⟩ := mean_both hF h (XL_len nu inF)
  refine ⟨x, a, x1, a1, ?_, by rw [(ML_perm nu inF).length_eq]; exact x3⟩
  unfold fX_meanPossible fRectangles_size
  rw [a2, openNumbers_e (by omega), Option.bind_some, Option.bind_some]
  by_cases c : fJ_bitCount (cset (fun k => decide (nu k ≠ 0) && !decide (inF k ≠ 0))) ≤ (0 : Int32)
  · rw [if_pos c] at x2 ⊢
    rw [← Option.some.inj x2]
  · rw [if_neg c] at x2 ⊢
    rw [Option.bind_some, a1.1, x2]
    rfl
theorem case42 (hF : 1200 < F) (hE : EV ef el ec) (h : BR nu inF fi la s 0) : ∃ out, fL_case42 F L (nI i) xs inF nu s th countX ec ef firstX el lastX cellsX ownerX manyM tableM cellsM ownerM codeM = some out := by
  obtain ⟨x, a, x1, a1, x2, x3⟩ := X_mean countX firstX lastX cellsX ownerX hF hE h
  obtain ⟨m, m1, m2⟩ := finds_s hF h manyM tableM cellsM ownerM codeM
  unfold fL_case42 fM_meanPossible
  rw [x2, m2]
  simp only [Option.bind_some]
  rw [m1.1, x3]
  simp only [Option.bind_some]
  rw [if_pos (cmp_self x1)]
  exact ⟨_, rfl⟩
end CMe
