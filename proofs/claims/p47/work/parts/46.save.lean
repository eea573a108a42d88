/-! THE MATHEMATICS: save. Own text. -/
theorem BR.bit {nu inF fi la s : Nat → Int32} {o : Nat} (h : BR nu inF fi la s o) : ∀ k, k < 42 → inF k = 0 ∨ inF k = 1 := fun _ hk => h.inF hk
theorem save_s {F : Nat} (hF : 504 < F) {a : Nat → Nat} (ha : ∀ j k, j < 6 → k < 6 → a j = a k → j = k) {count : Int32} {saved : Nat → Option Nat} {n i f l : Nat → Nat → Int32} {known : Int32} {before : Nat → Int32} (h : HI a count saved n i f l known before) {nb ib fb lb s : Nat → Int32} (hB : BR nb ib fb lb s 0) :
    ∃ (saved' : Nat → Option Nat) (count' : Int32) (n' i' f' l' : Nat → Nat → Int32) (before' : Nat → Int32) (known' : Int32), fHistory_save F (a 0) (a 1) (a 2) (a 3) (a 4) (a 5) count saved nb (n 0) ib (i 0) fb (f 0) lb (l 0) (n 1) (i 1) (f 1) (l 1) (n 2) (i 2) (f 2) (l 2) (n 3) (i 3) (f 3) (l 3) (n 4) (i 4) (f 4) (l 4) (n 5) (i 5) (f 5) (l 5) = some (saved', count', n' 0, i' 0, f' 0, l' 0, n' 1, i' 1, f' 1, l' 1, n' 2, i' 2, f' 2, l' 2, n' 3, i' 3, f' 3, l' 3, n' 4, i' 4, f' 4, l' 4, n' 5, i' 5, f' 5, l' 5) ∧ fM_save F known before s = some (before', known') ∧ HI a count' saved' n' i' f' l' known' before' := by
  obtain ⟨c, hc, rfl, rfl, p, hp, hinj, hbr⟩ := h
  have st : ∃ (c1 : Nat) (saved1 : Nat → Option Nat) (p1 : Nat → Nat) (before1 : Nat → Int32), c1 < 6 ∧ (if nI c < (6 : Int32) then some (nI c, saved) else (fHistory_dropOldest F (a 0) (a 1) (a 2) (a 3) (a 4) (a 5) saved (nI c)).bind fun s1 => some (s1.2, s1.1)) = some (nI c1, saved1) ∧ (if ¬ nI c = (6 : Int32) then some (nI c, before) else (fM_save_L11 F F (0 : Int32) before).bind fun r3 => some ((nI c - (1 : Int32)), r3.2)) = some (nI c1, before1) ∧ (∀ j, j < 6 → p1 j < 6 ∧ saved1 j = some (a (p1 j))) ∧ (∀ j k, j < 6 → k < 6 → p1 j = p1 k → j = k) ∧ ∀ j, j < c1 → BR (n (p1 j)) (i (p1 j)) (f (p1 j)) (l (p1 j)) before1 (84 * j) := by
    by_cases q : c < 6
    · refine ⟨c, saved, p, before, q, ?_, ?_, hp, hinj, hbr⟩
      · rw [if_pos (show nI c < (6 : Int32) from nI_lt (b := 6) q (by decide))]
      · rw [if_pos (fun e => by have := nI_inj (a := c) (b := 6) (by omega) (by decide) e; omega)]
    · have q6 : c = 6 := by omega
      subst q6
      obtain ⟨saved1, e1, h1, h2⟩ := dropOldest_s (by omega : 42 < F) hp (nI 6)
      obtain ⟨before1, e2, h3⟩ := msave_L11_s hF before
      refine ⟨5, saved1, fun j => if j < 5 then p (j + 1) else p 0, before1, by decide, ?_, ?_, fun j hj => ?_, fun j k hj hk e => ?_, fun j hj => ?_⟩
      · rw [if_neg (show ¬ nI 6 < (6 : Int32) by decide), e1]
        rfl
      · rw [if_neg (not_not_intro (show nI 6 = (6 : Int32) from rfl)), show (0 : Int32) = nI 0 from rfl, e2]
        rfl
      · by_cases q : j < 5
        · simp only [if_pos q]
          rw [h1 j q]
          exact hp (j + 1) (by omega)
        · have : j = 5 := by omega
          subst this
          simp only [if_neg q]
          rw [h2]
          exact hp 0 (by decide)
      · by_cases q1 : j < 5 <;> by_cases q2 : k < 5 <;> simp only [q1, q2, if_true, if_false] at e
        · have := hinj _ _ (by omega) (by omega) e; omega
        · have := hinj _ _ (by omega) (by omega) e; omega
        · have := hinj _ _ (by omega) (by omega) e; omega
        · omega
      · simp only [if_pos hj]
        refine (hbr (j + 1) (by omega)).cong (fun _ _ => rfl) (fun _ _ => rfl) (fun _ _ => rfl) (fun _ _ => rfl) (fun k hk => ?_)
        rw [h3, if_pos (by omega)]
        exact congrArg before (by omega)
  obtain ⟨c1, saved1, p1, before1, hc1, eX, eM, hp1, hinj1, hbr1⟩ := st
  obtain ⟨before2, eB, hb1, hb2⟩ := msave_L51_s hF hc1 s before1
  have ht := (hp1 c1 hc1).1
  generalize hpt : p1 c1 = t at ht
  obtain ⟨m', j', g', k', ec, hcp⟩ := copy_s (by omega : 42 < F) nb ib fb lb hB.bit (n t) (i t) (f t) (l t)
  refine ⟨saved1, nI (c1 + 1), fun q => if q = t then m' else n q, fun q => if q = t then j' else i q, fun q => if q = t then g' else f q, fun q => if q = t then k' else l q, before2, nI (c1 + 1), ?_, ?_, c1 + 1, hc1, rfl, rfl, p1, hp1, hinj1, fun j hj => ?_⟩
  · unfold fHistory_save
    rw [eX]
    simp only [Option.bind_some]
    rw [if_neg (nI_pos (by omega)), if_neg (show ¬ (6 : Int32) ≤ nI c1 from nI_ge (b := 6) hc1 (by decide)), o_rdq_s hc1 (by decide) (hp1 c1 hc1).2, Option.bind_some, Option.bind_some, hpt, nI_1]
    clear hpt
    rcases (show t = 0 ∨ t = 1 ∨ t = 2 ∨ t = 3 ∨ t = 4 ∨ t = 5 by omega) with rfl | rfl | rfl | rfl | rfl | rfl
    · have hn : ∀ j, j < 6 → ¬ j = 0 → ¬ a 0 = a j := fun j hj q e => q (ha j 0 hj (by decide) e.symm)
      rw [if_pos rfl, ec]
      rfl
    · have hn : ∀ j, j < 6 → ¬ j = 1 → ¬ a 1 = a j := fun j hj q e => q (ha j 1 hj (by decide) e.symm)
      rw [if_neg (hn 0 (by decide) (by decide)), if_pos rfl, ec]
      rfl
    · have hn : ∀ j, j < 6 → ¬ j = 2 → ¬ a 2 = a j := fun j hj q e => q (ha j 2 hj (by decide) e.symm)
      rw [if_neg (hn 0 (by decide) (by decide)), if_neg (hn 1 (by decide) (by decide)), if_pos rfl, ec]
      rfl
    · have hn : ∀ j, j < 6 → ¬ j = 3 → ¬ a 3 = a j := fun j hj q e => q (ha j 3 hj (by decide) e.symm)
      rw [if_neg (hn 0 (by decide) (by decide)), if_neg (hn 1 (by decide) (by decide)), if_neg (hn 2 (by decide) (by decide)), if_pos rfl, ec]
      rfl
    · have hn : ∀ j, j < 6 → ¬ j = 4 → ¬ a 4 = a j := fun j hj q e => q (ha j 4 hj (by decide) e.symm)
      rw [if_neg (hn 0 (by decide) (by decide)), if_neg (hn 1 (by decide) (by decide)), if_neg (hn 2 (by decide) (by decide)), if_neg (hn 3 (by decide) (by decide)), if_pos rfl, ec]
      rfl
    · have hn : ∀ j, j < 6 → ¬ j = 5 → ¬ a 5 = a j := fun j hj q e => q (ha j 5 hj (by decide) e.symm)
      rw [if_neg (hn 0 (by decide) (by decide)), if_neg (hn 1 (by decide) (by decide)), if_neg (hn 2 (by decide) (by decide)), if_neg (hn 3 (by decide) (by decide)), if_neg (hn 4 (by decide) (by decide)), if_pos rfl, ec]
      rfl
  · unfold fM_save
    rw [eM]
    simp only [Option.bind_some]
    rw [show (0 : Int32) = nI 0 from rfl, eB]
    simp only [Option.bind_some, nI_1]
  · by_cases q : j = c1
    · subst q
      rw [hpt]
      simp only [if_pos rfl]
      refine hB.cong (fun k hk => (hcp k hk).1) (fun k hk => (hcp k hk).2.1) (fun k hk => (hcp k hk).2.2.1) (fun k hk => (hcp k hk).2.2.2) (fun k hk => ?_)
      rw [Nat.zero_add]
      exact hb1 k hk
    · have hne : ¬ p1 j = t := fun e => q (hinj1 j c1 (by omega) hc1 (e.trans hpt.symm))
      simp only [if_neg hne]
      exact (hbr1 j (by omega)).cong (fun _ _ => rfl) (fun _ _ => rfl) (fun _ _ => rfl) (fun _ _ => rfl) (fun k hk => hb2 _ (by omega))
