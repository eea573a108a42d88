/-! THE MATHEMATICS: fields are taken away, case by case. Own text. -/
section CE
variable {F L i : Nat} {xs nu inF fi la s : Nat → Int32} {arr : Nat → Int64} {th : Int32}
theorem case4 (hF : 504 < F) {a : Nat → Nat} (ha : ∀ j k, j < 6 → k < 6 → a j = a k → j = k) {count known : Int32} {saved : Nat → Option Nat} {n q f l : Nat → Nat → Int32} {before : Nat → Int32} (hH : HI a count saved n q f l known before) (h : BR nu inF fi la s 0) :
    ∃ count' saved' n' q' f' l' inF' s' th' known' before', fL_case4 F L (nI i) (a 0) (a 1) (a 2) (a 3) (a 4) (a 5) xs inF count saved nu (n 0) (q 0) fi (f 0) la (l 0) (n 1) (q 1) (f 1) (l 1) (n 2) (q 2) (f 2) (l 2) (n 3) (q 3) (f 3) (l 3) (n 4) (q 4) (f 4) (l 4) (n 5) (q 5) (f 5) (l 5) s th known before = some (count', saved', (n' 0), inF', (q' 0), (f' 0), (l' 0), (n' 1), (q' 1), (f' 1), (l' 1), (n' 2), (q' 2), (f' 2), (l' 2), (n' 3), (q' 3), (f' 3), (l' 3), (n' 4), (q' 4), (f' 4), (l' 4), (n' 5), (q' 5), (f' 5), (l' 5), th', known', before', s') ∧ HI a count' saved' n' q' f' l' known' before' ∧ BR nu inF' fi la s' 0 := by
  obtain ⟨saved', count', n', q', f', l', before', known', z1, z2, z3⟩ := save_s hF ha hH h
  obtain ⟨m, -, y1, y2⟩ := h.count (F := F) (by omega)
  obtain ⟨i', w1, w2⟩ := removeFields_s (F := F) (by omega) inF
  obtain ⟨t, u1, u2, u3⟩ := meraseAll_L_s (F := F) (by omega) s
  unfold fL_case4 fX_eraseAll fM_eraseAll
  rw [z1, z2, y1, y2, w1, show fM_eraseAll_L16 F F (0 : Int32) s = _ from u1]
  simp only [Option.bind_some, if_true]
  exact ⟨count', saved', n', q', f', l', i', t, _, known', before', rfl, z3, h.clear w2 u2 u3⟩
theorem case3 (hF : 504 < F) {a : Nat → Nat} (ha : ∀ j k, j < 6 → k < 6 → a j = a k → j = k) {count known : Int32} {saved : Nat → Option Nat} {n q f l : Nat → Nat → Int32} {before : Nat → Int32} (hH : HI a count saved n q f l known before) (h : BR nu inF fi la s 0) (hi : i + 4 < L) (hL : L < 2 ^ 31) :
    ∃ count' saved' n' q' f' l' inF' arr' s' th' known' before', fL_case3 F L (nI i) (a 0) (a 1) (a 2) (a 3) (a 4) (a 5) xs inF count saved nu (n 0) (q 0) fi (f 0) la (l 0) (n 1) (q 1) (f 1) (l 1) (n 2) (q 2) (f 2) (l 2) (n 3) (q 3) (f 3) (l 3) (n 4) (q 4) (f 4) (l 4) (n 5) (q 5) (f 5) (l 5) arr s th known before = some (inF', count', saved', (n' 0), (q' 0), (f' 0), (l' 0), (n' 1), (q' 1), (f' 1), (l' 1), (n' 2), (q' 2), (f' 2), (l' 2), (n' 3), (q' 3), (f' 3), (l' 3), (n' 4), (q' 4), (f' 4), (l' 4), (n' 5), (q' 5), (f' 5), (l' 5), arr', s', th', known', before') ∧ HI a count' saved' n' q' f' l' known' before' ∧ BR nu inF' fi la s' 0 := by
  unfold fL_case3
  rw [show (1 : Int32) = nI 1 from rfl, show (2 : Int32) = nI 2 from rfl, rdk (by omega) hL, rdk (by omega) hL]
  simp only [Option.bind_some]
  unfold fPaddockFieldsLaw_erase fX_erase fM_erase
  rcases there1 h (xs (i + 1)) (xs (i + 2)) th with ⟨e1, e2⟩ | ⟨e1, e2⟩ | ⟨r, p, hr, hq, ex, ey, g, e1, e2⟩
  · rw [e1, e2]
    exact ⟨count, saved, n, q, f, l, inF, _, s, _, known, before, rfl, hH, h⟩
  · rw [e1, e2]
    exact ⟨count, saved, n, q, f, l, inF, _, s, _, known, before, rfl, hH, h⟩
  · have hk : 7 * r + p < 42 := by omega
    obtain ⟨saved', count', n', q', f', l', before', known', z1, z2, z3⟩ := save_s hF ha hH h
    obtain ⟨z, m, hm, y1, y2, y3⟩ := h.size (F := F) (by omega) hk g
    obtain ⟨z', y4, y5⟩ := fieldOf_s (F := F) (by omega) s hk
    obtain rfl : z = z' := Option.some.inj (y1.symm.trans y4)
    obtain ⟨i', w1, w2⟩ := removeField_s (F := F) (fi := fi) (by omega) hk h.bit
    obtain ⟨t, u1, u2, u3⟩ := merase_L_s (F := F) (by omega) z s
    have hB : BR nu i' fi la t 0 := h.remove hk g w2 (fun k hk2 => by
      rw [u2 k hk2, y5 k]
      by_cases c : s (42 + k) = s (42 + (7 * r + p))
      · rw [if_pos c, if_pos]
        rw [decide_eq_true hk2, decide_eq_true c]
        rfl
      · rw [if_neg c, if_neg]
        rw [decide_eq_false c, Bool.and_false]
        decide) u3
    rw [e1, e2, ex, ey]
    simp only [Option.bind_some, if_true, m7]
    rw [if_pos (show ¬ (1 : Int32) = 0 by decide), z1, z2, y3, w1, y1]
    simp only [Option.bind_some]
    rw [show fM_erase_L30 F z F (0 : Int32) s = _ from u1, y2]
    simp only [Option.bind_some, wr1, if_true, fM_thrown]
    rw [if_neg (by decide)]
    simp only [rd1, Option.bind_some, if_true]
    exact ⟨count', saved', n', q', f', l', i', _, t, _, known', before', rfl, z3, hB⟩
end CE
