/-! THE MATHEMATICS: a board is made, the case. Own text. -/
section CM
variable {F L i : Nat} {xs nu inF fi la s : Nat → Int32} {arr : Nat → Int64} {th : Int32}
theorem case1 (hF : 1000 < F) {a : Nat → Nat} (ha : ∀ j k, j < 6 → k < 6 → a j = a k → j = k) {count known : Int32} {saved : Nat → Option Nat} {n q f l : Nat → Nat → Int32} {before : Nat → Int32} (hH : HI a count saved n q f l known before) (h : BR nu inF fi la s 0) (hi : i + 4 < L) (hL : L < 2 ^ 31) (xK : Int64) (countK : Int32) (firstK lastK : Nat → Int32) (seedM : Int64) (cutsM : Nat → Int32) :
    ∃ count' saved' n' q' f' l' nu' inF' arr' s' th' known' before' x1 c1 f1 l1 sd1 cu1, fL_case1 F L (nI i) (a 0) (a 1) (a 2) (a 3) (a 4) (a 5) xs inF count saved nu (n 0) (q 0) fi (f 0) la (l 0) (n 1) (q 1) (f 1) (l 1) (n 2) (q 2) (f 2) (l 2) (n 3) (q 3) (f 3) (l 3) (n 4) (q 4) (f 4) (l 4) (n 5) (q 5) (f 5) (l 5) arr s th known before xK countK firstK lastK seedM cutsM = some (count', saved', nu', (n' 0), inF', (q' 0), (f' 0), (l' 0), (n' 1), (q' 1), (f' 1), (l' 1), (n' 2), (q' 2), (f' 2), (l' 2), (n' 3), (q' 3), (f' 3), (l' 3), (n' 4), (q' 4), (f' 4), (l' 4), (n' 5), (q' 5), (f' 5), (l' 5), x1, c1, f1, l1, arr', th', known', before', s', sd1, cu1) ∧ HI a count' saved' n' q' f' l' known' before' ∧ BR nu' inF' fi la s' 0 := by
  unfold fL_case1
  rw [show (1 : Int32) = nI 1 from rfl, rdk (by omega) hL]
  simp only [Option.bind_some]
  unfold fPaddockFieldsLaw_make fX_make fM_make
  rcases in_cases (lo := 0) (hi := 999999) (by decide) (xs (i + 1)) with ⟨v, -, hv, ev, g1, g2, g3⟩ | ⟨g, g3⟩ | g
  · obtain ⟨saved', count', n', q', f', l', before', known', y1, y2, y3⟩ := save_s (F := F) (by omega) ha hH h
    obtain ⟨iF', nu', x', c', l1, f1, m, ms', cu', s', z1, z2, z3, z4⟩ := makes_s hF (sd := v) (by omega) inF nu xK countK firstK lastK seedM cutsM s
    have hB := z4 fi la
    rw [show fM_in (xs (i + 1)) (0 : Int32) (999999 : Int32) = some 1 from g3, if_neg (show ¬ xs (i + 1) < (0 : Int32) from g1), if_pos (show xs (i + 1) ≤ (999999 : Int32) from g2), ev, Option.bind_some, if_pos (show ¬ (1 : Int32) = 0 by decide), y1, y2]
    simp only [Option.bind_some]
    rw [z1, z2]
    simp only [Option.bind_some]
    rw [numbered_X (F := F) (by omega) hB]
    simp only [Option.bind_some]
    rw [show fJ_bitCount (Nm nu') = nI m from by rw [← z3]; exact bc_cset _]
    simp only [Option.bind_some, if_true, wr1, fM_thrown]
    rw [if_neg (by decide)]
    simp only [rd1, Option.bind_some, if_true]
    exact ⟨count', saved', n', q', f', l', nu', iF', _, s', _, known', before', x', c', f1, l1, ms', cu', rfl, y3, hB⟩
  · rw [show fM_in (xs (i + 1)) (0 : Int32) (999999 : Int32) = some 0 from g3]
    rcases g with g | ⟨g1, g2⟩
    · rw [if_pos (show xs (i + 1) < (0 : Int32) from g)]
      exact ⟨count, saved, n, q, f, l, nu, inF, _, s, _, known, before, xK, countK, firstK, lastK, seedM, cutsM, rfl, hH, h⟩
    · rw [if_neg (show ¬ xs (i + 1) < (0 : Int32) from g1), if_neg (show ¬ xs (i + 1) ≤ (999999 : Int32) from g2)]
      exact ⟨count, saved, n, q, f, l, nu, inF, _, s, _, known, before, xK, countK, firstK, lastK, seedM, cutsM, rfl, hH, h⟩
  · exact absurd g (by decide)
end CM
