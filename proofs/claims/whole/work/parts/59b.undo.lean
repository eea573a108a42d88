/-! THE MATHEMATICS: undo. Own text. -/
theorem mundo_L_s {F : Nat} (hF : 504 < F) {c : Nat} (hc : c < 6) (bf s0 : Nat → Int32) : ∃ t, fM_undo_L35 F (nI c) bf F (nI 0) s0 = some (nI 84, t) ∧ ∀ k, k < 84 → t k = bf (84 * c + k) := by
  obtain ⟨b, hb, e⟩ := lp0 84 (by omega : 84 < F) (fun N i (b : Nat → Int32) => fM_undo_L35 F (nI c) bf N (nI i) b) (fun b => (nI 84, b)) (fun i b => ∀ k, k < i → b k = bf (84 * c + k)) (a := s0)
    (fun k hk => by omega)
    (fun i b hi hb => by
      have e1 : ¬ (84 : Int32) ≤ nI i := nI_ge (b := 84) hi (by decide)
      have e0 : ((84 : Int32) * nI c) + nI i = nI (84 * c + i) := by rw [show (84 : Int32) = nI 84 from rfl, nI_mul, nI_add]
      refine ⟨upd b i (bf (84 * c + i)), fun k hk => ?_, fun N => ?_⟩
      · by_cases q : k = i
        · subst q; rw [upd_at]
        · rw [upd_off _ _ q]; exact hb k (by omega)
      · simp only [fM_undo_L35, e1, if_false, e0, o_rd_s (show 84 * c + i < 504 by omega) (show 504 < 2 ^ 31 by decide), o_wrI_s hi (show 84 < 2 ^ 31 by decide), Option.bind_some, nI_1])
    (fun N b hb => by simp only [fM_undo_L35, show (84 : Int32) ≤ nI 84 from Int32.le_refl _, if_true])
  exact ⟨b, e, hb⟩
/-- the latest state comes back -/
theorem load_s {F : Nat} (hF : 504 < F) {a : Nat → Nat} (ha : ∀ j k, j < 6 → k < 6 → a j = a k → j = k) {count : Int32} {saved : Nat → Option Nat} {n i f l : Nat → Nat → Int32} {known : Int32} {before : Nat → Int32} (h : HI a count saved n i f l known before) (h0 : ¬ count = 0) (nb ib fb lb s : Nat → Int32) :
    ∃ (count' : Int32) (nb' ib' fb' lb' s' : Nat → Int32), fHistory_loadLatest F (a 0) (a 1) (a 2) (a 3) (a 4) (a 5) count saved (n 0) nb (i 0) ib (f 0) fb (l 0) lb (n 1) (i 1) (f 1) (l 1) (n 2) (i 2) (f 2) (l 2) (n 3) (i 3) (f 3) (l 3) (n 4) (i 4) (f 4) (l 4) (n 5) (i 5) (f 5) (l 5) = some (count', nb', ib', fb', lb') ∧ ¬ known = 0 ∧ fM_undo_L35 F (known - 1) before F (0 : Int32) s = some (nI 84, s') ∧ HI a count' saved n i f l (known - 1) before ∧ BR nb' ib' fb' lb' s' 0 := by
  obtain ⟨c, hc, rfl, rfl, p, hp, hinj, hbr⟩ := h
  obtain ⟨d, rfl⟩ : ∃ d, c = d + 1 := ⟨c - 1, by
    have : c ≠ 0 := fun e => h0 (by rw [e]; rfl)
    omega⟩
  have hd : d < 6 := by omega
  have hB := hbr d (by omega)
  obtain ⟨s', eM, hs⟩ := mundo_L_s hF hd before s
  have ht := (hp d hd).1
  generalize hpt : p d = t at ht hB
  obtain ⟨m', j', g', k', ec, hcp⟩ := copy_s (by omega : 42 < F) (n t) (i t) (f t) (l t) hB.bit nb ib fb lb
  refine ⟨nI d, m', j', g', k', s', ?_, h0, ?_, ?_, ?_⟩
  · unfold fHistory_loadLatest
    rw [if_neg (nI_nle (by omega) (by omega)), if_neg (show ¬ (6 : Int32) < nI (d + 1) from nI_nlt (a := 6) (by omega) (by decide)), nI_pred, o_rdq_s hd (by decide) (hp d hd).2, Option.bind_some, hpt]
    clear hpt
    rcases (show t = 0 ∨ t = 1 ∨ t = 2 ∨ t = 3 ∨ t = 4 ∨ t = 5 by omega) with rfl | rfl | rfl | rfl | rfl | rfl
    · have hn : ∀ j, j < 6 → ¬ j = 0 → ¬ a 0 = a j := fun j hj q e => q (ha j 0 hj (by decide) e.symm)
      rw [if_pos rfl, ec]
      rfl
    · have hn : ∀ j, j < 6 → ¬ j = 1 → ¬ a 1 = a j := fun j hj q e => q (ha j 1 hj (by decide) e.symm)
      rw [if_neg (hn 0 (by decide) (by decide)), if_pos rfl, ec]
      rfl
    · have hn : ∀ j, j < 6 → ¬ j = 2 → ¬ a 2 = a j := fun j hj q e => q (ha j 2 hj (by decide) e.symm)
      rw [if_neg (hn 0 (by decide) (by decide)), if_neg (hn 1 (by decide) (by decide)), if_pos rfl, ec]
      rfl
    · have hn : ∀ j, j < 6 → ¬ j = 3 → ¬ a 3 = a j := fun j hj q e => q (ha j 3 hj (by decide) e.symm)
      rw [if_neg (hn 0 (by decide) (by decide)), if_neg (hn 1 (by decide) (by decide)), if_neg (hn 2 (by decide) (by decide)), if_pos rfl, ec]
      rfl
    · have hn : ∀ j, j < 6 → ¬ j = 4 → ¬ a 4 = a j := fun j hj q e => q (ha j 4 hj (by decide) e.symm)
      rw [if_neg (hn 0 (by decide) (by decide)), if_neg (hn 1 (by decide) (by decide)), if_neg (hn 2 (by decide) (by decide)), if_neg (hn 3 (by decide) (by decide)), if_pos rfl, ec]
      rfl
    · have hn : ∀ j, j < 6 → ¬ j = 5 → ¬ a 5 = a j := fun j hj q e => q (ha j 5 hj (by decide) e.symm)
      rw [if_neg (hn 0 (by decide) (by decide)), if_neg (hn 1 (by decide) (by decide)), if_neg (hn 2 (by decide) (by decide)), if_neg (hn 3 (by decide) (by decide)), if_neg (hn 4 (by decide) (by decide)), if_pos rfl, ec]
      rfl
  · rw [nI_pred]
    exact eM
  · exact ⟨d, by omega, rfl, by rw [nI_pred], p, hp, hinj, fun j hj => hbr j (by omega)⟩
  · exact hB.cong (fun k hk => (hcp k hk).1) (fun k hk => (hcp k hk).2.1) (fun k hk => (hcp k hk).2.2.1) (fun k hk => (hcp k hk).2.2.2) (fun k hk => by
      rw [Nat.zero_add]
      exact hs k hk)
