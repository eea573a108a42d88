/-! THE MATHEMATICS: a row is written, the case. Own text. -/
section CR2
variable {F L i : Nat} {xs nu inF fi la s : Nat → Int32} {arr : Nat → Int64} {th : Int32}
theorem case10 (hF : 504 < F) {a : Nat → Nat} (ha : ∀ j k, j < 6 → k < 6 → a j = a k → j = k) {count known : Int32} {saved : Nat → Option Nat} {n q f l : Nat → Nat → Int32} {before : Nat → Int32} (hH : HI a count saved n q f l known before) (h : BR nu inF fi la s 0) {m : Nat} {codes buf : Nat → Int32} (hm : m ≤ 60) (hc : ∀ k, k < m → codes k = buf k) (hi : i + 4 < L) (hL : L < 2 ^ 31) :
    ∃ m' count' saved' n' q' f' l' nu' arr' s' th' known' before', fL_case10 F L (nI i) (a 0) (a 1) (a 2) (a 3) (a 4) (a 5) xs inF count saved nu (n 0) (q 0) fi (f 0) la (l 0) (n 1) (q 1) (f 1) (l 1) (n 2) (q 2) (f 2) (l 2) (n 3) (q 3) (f 3) (l 3) (n 4) (q 4) (f 4) (l 4) (n 5) (q 5) (f 5) (l 5) arr s th known before (nI m) codes (nI m) buf = some ((nI m'), count', saved', nu', (n' 0), (q' 0), (f' 0), (l' 0), (n' 1), (q' 1), (f' 1), (l' 1), (n' 2), (q' 2), (f' 2), (l' 2), (n' 3), (q' 3), (f' 3), (l' 3), (n' 4), (q' 4), (f' 4), (l' 4), (n' 5), (q' 5), (f' 5), (l' 5), arr', th', (nI m'), s', known', before') ∧ m' ≤ m ∧ HI a count' saved' n' q' f' l' known' before' ∧ BR nu' inF fi la s' 0 := by
  unfold fL_case10
  rw [show (1 : Int32) = nI 1 from rfl, rdk (by omega) hL]
  simp only [Option.bind_some]
  unfold fPaddockFieldsLaw_writeRow fX_writeRow fM_writeRow
  rcases in_cases (lo := 0) (hi := 5) (by decide) (xs (i + 1)) with ⟨r, -, hr, er, g1, g2, g3⟩ | ⟨g, g3⟩ | g
  · have g4 : xs (i + 1) < (6 : Int32) := by
      rw [Int32.lt_iff_toInt_lt, er, nI_toInt (by omega)]
      have : (6 : Int32).toInt = 6 := by decide
      omega
    rw [show fM_in (xs (i + 1)) (0 : Int32) (5 : Int32) = some 1 from g3, if_neg (show ¬ xs (i + 1) < (0 : Int32) from g1), if_pos g4, Option.bind_some, if_pos (show ¬ (1 : Int32) = 0 by decide), er]
    unfold fInputText_tellsRow
    by_cases h7 : m = 7
    · subst h7
      obtain ⟨j, hj, e1, e2, e3⟩ := err_s (F := F) (by omega) hm hc
      rw [show nI 7 = (7 : Int32) from rfl, if_neg (not_not_intro rfl), if_neg (not_not_intro rfl)]
      rw [show nI 7 = (7 : Int32) from rfl] at e1 e2
      rw [e1, e2]
      simp only [Option.bind_some]
      by_cases hj7 : j = 7
      · subst hj7
        obtain ⟨-, hv⟩ := e3 rfl
        rw [if_neg (show ¬ ¬ nI 7 = (7 : Int32) from not_not_intro rfl), if_pos (show (7 : Int32) ≤ nI 7 by decide)]
        simp only [Option.bind_some]
        rw [if_pos (show ¬ (1 : Int32) = 0 by decide)]
        unfold fX_rowHasField
        obtain ⟨z, t', w1, w2, w3, -⟩ := rowHasM h (r := r) (by omega) 7 0 F 0 rfl (by omega)
        rw [show (7 : Int32) * nI r = nI (7 * r + 0) from by rw [show (7 : Int32) = nI 7 from rfl, nI_mul, Nat.add_zero], w1]
        rcases rowHasX h (r := r) (by omega) 7 0 F rfl (by omega) with ⟨k1, k2⟩ | ⟨k1, k2⟩
        · rw [show fX_rowHasField_L2 F (nI r) inF F (0 : Int32) = some 0 from k2, w2 k1]
          simp only [Option.bind_some, if_true]
          obtain ⟨saved', count', n', q', f', l', before', known', z1, z2, z3⟩ := save_s hF ha hH h
          obtain ⟨c', nu', s', y1, y2, y3⟩ := writes_s hc hv (show r < 6 by omega) 7 0 F 0 nu s rfl (by omega) h
          rw [z1, z2, show fX_writeRow_L73 F (nI r) codes F (0 : Int32) (0 : Int32) nu = _ from y1, if_pos (show (0 : Int32) ≤ 0 by decide)]
          simp only [Option.bind_some]
          rw [show fM_writeRow_L109 F (nI r) buf F (0 : Int32) (0 : Int32) s = _ from y2]
          unfold fInputText_clear
          simp only [Option.bind_some, wr1, if_true, fM_thrown]
          rw [if_neg (by decide)]
          simp only [rd1, Option.bind_some, if_true]
          exact ⟨0, count', saved', n', q', f', l', _, _, _, _, known', before', rfl, by omega, z3, y3⟩
        · rw [show fX_rowHasField_L2 F (nI r) inF F (0 : Int32) = some 1 from k2, w3 k1]
          exact ⟨7, count, saved, n, q, f, l, nu, _, s, _, known, before, rfl, by omega, hH, h⟩
      · have j1 : ¬ nI j = (7 : Int32) := fun e => hj7 (nI_inj (by omega) (by decide) e)
        rw [if_pos j1, if_neg (ge7 (by omega))]
        exact ⟨7, count, saved, n, q, f, l, nu, _, s, _, known, before, rfl, by omega, hH, h⟩
    · have m1 : ¬ nI m = (7 : Int32) := fun e => h7 (nI_inj (by omega) (by decide) e)
      rw [if_pos m1, if_pos m1]
      exact ⟨m, count, saved, n, q, f, l, nu, _, s, _, known, before, rfl, by omega, hH, h⟩
  · rw [show fM_in (xs (i + 1)) (0 : Int32) (5 : Int32) = some 0 from g3]
    rcases g with g | ⟨g1, g2⟩
    · rw [if_pos (show xs (i + 1) < (0 : Int32) from g)]
      exact ⟨m, count, saved, n, q, f, l, nu, _, s, _, known, before, rfl, by omega, hH, h⟩
    · have g4 : ¬ xs (i + 1) < (6 : Int32) := by
        rw [Int32.lt_iff_toInt_lt]
        rw [Int32.le_iff_toInt_le, nI_toInt (by decide)] at g2
        have : (6 : Int32).toInt = 6 := by decide
        omega
      rw [if_neg (show ¬ xs (i + 1) < (0 : Int32) from g1), if_neg g4]
      exact ⟨m, count, saved, n, q, f, l, nu, _, s, _, known, before, rfl, by omega, hH, h⟩
  · exact absurd g (by decide)
end CR2
