/-! THE MATHEMATICS: numbers are written, case by case. Own text. -/
section CW
variable {F L i : Nat} {xs nu inF fi la s : Nat → Int32} {arr : Nat → Int64} {th : Int32}
theorem setNumber_s {nu : Nat → Int32} {k : Nat} (hk : k < 42) (v : Int32) : fBoard_setNumber (nI k) v nu = some (upd nu k v) := by
  unfold fBoard_setNumber
  rw [fX_isCell_s hk, Option.bind_some, if_neg (by decide), o_wrI_s hk (by decide)]
  rfl
theorem BR.write {v : Nat} (h : BR nu inF fi la s 0) {k : Nat} (hk : k < 42) (hv : v ≤ 20) : BR (upd nu k (nI v)) inF fi la (upd s k (nI v)) 0 := by
  intro j hj
  obtain ⟨h1, h2, h3⟩ := h j hj
  have e1 : upd s k (nI v) (0 + 42 + j) = s (0 + 42 + j) := by
    unfold upd
    rw [if_neg (by omega)]
  refine ⟨?_, ?_, ?_⟩
  · unfold upd
    by_cases c : j = k
    · rw [if_pos c]
      exact ⟨v, hv, rfl⟩
    · rw [if_neg c]
      exact h1
  · unfold upd
    rw [Nat.zero_add] at h2 ⊢
    by_cases c : j = k
    · rw [if_pos c, if_pos c]
    · rw [if_neg c, if_neg c]
      exact h2
  · rw [e1]
    exact h3
theorem in_cases {lo hi : Nat} (hh : hi < 2 ^ 31) (x : Int32) : (∃ v, lo ≤ v ∧ v ≤ hi ∧ x = nI v ∧ ¬ x < nI lo ∧ x ≤ nI hi ∧ fM_in x (nI lo) (nI hi) = some 1) ∨ ((x < nI lo ∨ ¬ x < nI lo ∧ ¬ x ≤ nI hi) ∧ fM_in x (nI lo) (nI hi) = some 0) ∨ hi < lo := by
  by_cases hl : hi < lo
  · exact Or.inr (Or.inr hl)
  have e1 : (nI lo).toInt = lo := nI_toInt (by omega)
  have e2 : (nI hi).toInt = hi := nI_toInt (by omega)
  unfold fM_in
  by_cases q1 : x < nI lo
  · rw [if_pos q1]
    exact Or.inr (Or.inl ⟨Or.inl q1, rfl⟩)
  · rw [if_neg q1]
    have q1' := q1
    rw [Int32.lt_iff_toInt_lt] at q1'
    by_cases q2 : x ≤ nI hi
    · have q2' := q2
      rw [Int32.le_iff_toInt_le] at q2'
      have q3 : ¬ nI hi < x := by
        rw [Int32.lt_iff_toInt_lt]
        omega
      rw [if_neg q3]
      refine Or.inl ⟨x.toInt.toNat, by omega, by omega, ?_, q1, q2, rfl⟩
      apply Int32.toInt_inj.mp
      rw [nI_toInt (by omega)]
      omega
    · have q3 : nI hi < x := by
        rw [Int32.le_iff_toInt_le] at q2
        rw [Int32.lt_iff_toInt_lt]
        omega
      rw [if_pos q3]
      exact Or.inr (Or.inl ⟨Or.inr ⟨q1, q2⟩, rfl⟩)
theorem case0 (hF : 504 < F) {a : Nat → Nat} (ha : ∀ j k, j < 6 → k < 6 → a j = a k → j = k) {count known : Int32} {saved : Nat → Option Nat} {n q f l : Nat → Nat → Int32} {before : Nat → Int32} (hH : HI a count saved n q f l known before) (h : BR nu inF fi la s 0) (hi : i + 4 < L) (hL : L < 2 ^ 31) :
    ∃ count' saved' n' q' f' l' nu' arr' s' th' known' before', fL_case0 F L (nI i) (a 0) (a 1) (a 2) (a 3) (a 4) (a 5) xs inF count saved nu (n 0) (q 0) fi (f 0) la (l 0) (n 1) (q 1) (f 1) (l 1) (n 2) (q 2) (f 2) (l 2) (n 3) (q 3) (f 3) (l 3) (n 4) (q 4) (f 4) (l 4) (n 5) (q 5) (f 5) (l 5) arr s th known before = some (count', saved', nu', (n' 0), (q' 0), (f' 0), (l' 0), (n' 1), (q' 1), (f' 1), (l' 1), (n' 2), (q' 2), (f' 2), (l' 2), (n' 3), (q' 3), (f' 3), (l' 3), (n' 4), (q' 4), (f' 4), (l' 4), (n' 5), (q' 5), (f' 5), (l' 5), arr', s', th', known', before') ∧ HI a count' saved' n' q' f' l' known' before' ∧ BR nu' inF fi la s' 0 := by
  unfold fL_case0
  rw [show (1 : Int32) = nI 1 from rfl, show (2 : Int32) = nI 2 from rfl, show (3 : Int32) = nI 3 from rfl, rdk (by omega) hL, rdk (by omega) hL, rdk (by omega) hL]
  simp only [Option.bind_some]
  unfold fPaddockFieldsLaw_write fX_write fM_write
  rcases cell_cases (xs (i + 1)) (xs (i + 2)) with ⟨e1, e2⟩ | ⟨r, p, hr, hq, ex, ey, e1, e2⟩
  · rw [e1, e2]
    exact ⟨count, saved, n, q, f, l, nu, arr, s, 1, known, before, rfl, hH, h⟩
  · have hk : 7 * r + p < 42 := by omega
    rw [e1, e2, ex, ey]
    rcases in_cases (lo := 0) (hi := 20) (by decide) (xs (i + 3)) with ⟨v, -, hv, ev, g1, g2, g3⟩ | ⟨g, g3⟩ | g
    · rw [show fM_in (xs (i + 3)) (0 : Int32) (20 : Int32) = some 1 from g3]
      simp only [Option.bind_some, if_true]
      rw [if_neg (show ¬ xs (i + 3) < (0 : Int32) from g1), if_pos (show xs (i + 3) ≤ (20 : Int32) from g2), ev, hasField_s hk (h.inF hk)]
      simp only [Option.bind_some, m42, m7]
      rw [o_rd_s (show 42 + (7 * r + p) < 84 by omega) (by decide)]
      rcases h.inF hk with g | g
      · have es : s (42 + (7 * r + p)) ≤ 0 := by
          rw [show s (42 + (7 * r + p)) = 0 from (by rw [h.s0 hk]; exact g)]
          decide
        obtain ⟨saved', count', n', q', f', l', before', known', z1, z2, z3⟩ := save_s hF ha hH h
        rw [g]
        simp only [Option.bind_some]
        rw [if_pos (show ¬ (1 : Int32) = 0 by decide), if_pos (show ¬ (1 : Int32) = 0 by decide), if_pos es]
        simp only [Option.bind_some, if_true]
        rw [z1, z2, if_pos (by decide), numberIn_s hk, setNumber_s hk, o_rd_s (show 7 * r + p < 84 by omega) (by decide), o_wrI_s (show 7 * r + p < 84 by omega) (by decide)]
        have en : s (7 * r + p) = nu (7 * r + p) := by
          have := (h _ hk).2.1
          rwa [Nat.zero_add] at this
        simp only [Option.bind_some, wr1, if_true, fM_thrown]
        rw [if_neg (by decide)]
        simp only [rd1, Option.bind_some, en, if_true]
        exact ⟨count', saved', n', q', f', l', _, _, _, _, known', before', rfl, z3, h.write hk hv⟩
      · have es : ¬ s (42 + (7 * r + p)) ≤ 0 := by
          rw [← h.fld hk, g]
          decide
        rw [g]
        simp only [Option.bind_some]
        rw [if_pos (show ¬ (1 : Int32) = 0 by decide), if_pos (show ¬ (1 : Int32) = 0 by decide), if_neg es]
        exact ⟨count, saved, n, q, f, l, nu, _, s, _, known, before, rfl, hH, h⟩
    · rw [show fM_in (xs (i + 3)) (0 : Int32) (20 : Int32) = some 0 from g3]
      simp only [Option.bind_some, if_true]
      rcases g with g | ⟨g1, g2⟩
      · rw [if_pos (show xs (i + 3) < (0 : Int32) from g)]
        exact ⟨count, saved, n, q, f, l, nu, _, s, _, known, before, rfl, hH, h⟩
      · rw [if_neg (show ¬ xs (i + 3) < (0 : Int32) from g1), if_neg (show ¬ xs (i + 3) ≤ (20 : Int32) from g2)]
        exact ⟨count, saved, n, q, f, l, nu, _, s, _, known, before, rfl, hH, h⟩
    · exact absurd g (by decide)
end CW
