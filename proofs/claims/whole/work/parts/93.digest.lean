/-! THE MATHEMATICS: the digest, the case. Own text. -/
section CDj
variable {F L i : Nat} {xs nu inF fi la s : Nat → Int32} {th : Int32} {ef el : Nat → Int32} {ec : Nat → Int64}
theorem first_eq {Z : List (Nat × Nat)} {i1 f1 k1 co wi : Nat → Int32} (h : BR nu inF fi la s 0) (z3 : ∀ r, r ∈ Z → RC r.1 r.2 ∧ ∀ k, k < 42 → inb r.1 r.2 k = true → inF k = 0) (z4 : ∀ k, k < 42 → inF k ≠ 0 ∨ ∃ r, r ∈ Z ∧ inb r.1 r.2 k = true) (hP : PL Z inF fi la i1 f1 k1) (hR : RM inF fi la s Z co wi) {k : Nat} (hk : k < 42) : f1 k = co k ∧ fBoard_sizeOfField (nI k) f1 k1 = some (wi k) := by
  by_cases hin : ∃ r2, r2 ∈ Z ∧ inb r2.1 r2.2 k = true
  · obtain ⟨r2, u1, u2⟩ := hin
    obtain ⟨-, p2, p3⟩ := (hP k hk).1 r2 u1 u2
    obtain ⟨p4, p5⟩ := (hR k hk).1 r2 u1 u2
    exact ⟨p2.trans p4.symm, by rw [p5]; exact sizeOfField_e hk p2 p3 (z3 r2 u1).1⟩
  · have hno : ∀ r2, r2 ∈ Z → inb r2.1 r2.2 k = false := fun r2 hr2 => by
      cases hb : inb r2.1 r2.2 k
      · rfl
      · exact absurd ⟨r2, hr2, hb⟩ hin
    have hone : inF k = 1 := by
      rcases z4 _ hk with e | e
      · rcases h.inF hk with g | g
        · exact absurd g e
        · exact g
      · exact absurd e hin
    obtain ⟨-, p2, p3⟩ := (hP k hk).2 hno
    obtain ⟨p6, p7⟩ := (hR k hk).2 hno
    obtain ⟨v, p4, p5⟩ := p7 hone
    obtain ⟨A, B, hab, hi2, g1, g2, g3, -, -⟩ := h.field hk hone
    exact ⟨by rw [p2, p6, g1, g3, nI_p1], by rw [p4]; exact (sizeOfField_c hk p2 p3).trans p5⟩
theorem tot_s {Lf : Nat × Nat → Bool} {a : Int32 × (Nat → Int32) × (Nat → Int32) × (Nat → Int64) × (Nat → Int32)} {m : Int32 × (Nat → Int64) × (Nat → Int32) × (Nat → Int32) × (Nat → Int32)} (hF : 588 < F) (h : BR nu inF fi la s 0) (ha : XI nu (XL nu inF) a) (hm : MI nu (ML nu inF) m) {left over : Nat → Int32} (hl : LX (XL nu inF) Lf left) (ho : LM (ML nu inF) Lf over) {b : Int32} (hb : b = 0 ∨ b = 1) :
    ∃ (j17 : Int32) (x y z : Int64),
      (if b = (0 : Int32) then (fSteps_firstCertain F left a.1 a.2.2.2.2).bind fun s16 => some s16 else some (42 : Int32) : Option Int32) = some j17 ∧
      (if b = (0 : Int32) then some (0 : Int64) else some (1 : Int64) : Option Int64) = some x ∧
      (if b = (0 : Int32) then (fSteps_countCertain F left a.1 a.2.2.2.2).bind fun s20 => some (s20 + (1 : Int32)).toInt64 else some (0 : Int64) : Option Int64) = some y ∧
      (if ¬ j17 = (42 : Int32) then some (j17 + (1 : Int32)).toInt64 else some (0 : Int64) : Option Int64) = some z ∧
      (if b = (0 : Int32) then (fM_sure F s m.1 m.2.2.1 over).bind fun s42 => some (s42 + (1 : Int32)).toInt64 else some (0 : Int64) : Option Int64) = some y ∧
      (if b = (0 : Int32) then (fM_firstSure F s m.1 m.2.2.1 over).bind fun s45 => some (s45 + (1 : Int32)).toInt64 else some (0 : Int64) : Option Int64) = some z := by
  rcases hb with rfl | rfl
  · have hle : fa_first (one nu inF Lf) 42 ≤ 42 := fa_first_le _ _
    rw [X_firstCertain hF ha hl, X_countCertain hF ha hl, M_sure hF h hm ho, M_firstSure hF h hm ho]
    generalize fa_first (one nu inF Lf) 42 = c at hle
    by_cases hc : c < 42
    · have c1 : ¬ nI c = (42 : Int32) := fun e => by
        have := nI_inj (by omega) (b := 42) (by decide) e
        omega
      rw [if_pos hc]
      exact ⟨nI c, 0, _, (nI c + (1 : Int32)).toInt64, rfl, rfl, rfl, by rw [if_pos c1], rfl, rfl⟩
    · obtain rfl : c = 42 := by omega
      exact ⟨nI 42, 0, _, 0, rfl, rfl, rfl, rfl, rfl, rfl⟩
  · exact ⟨42, 1, 0, 0, rfl, rfl, rfl, rfl, rfl, rfl⟩
end CDj
