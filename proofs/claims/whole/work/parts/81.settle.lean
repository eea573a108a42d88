/-! THE MATHEMATICS: the certain fields are drawn, the case. Own text. -/
section CS2
variable {F L i : Nat} {xs nu inF fi la s : Nat → Int32} {arr : Nat → Int64} {th : Int32} {ef el : Nat → Int32} {ec : Nat → Int64}
variable (countX : Int32) (firstX lastX : Nat → Int32) (cellsX : Nat → Int64) (ownerX : Nat → Int32) (openS numbersS : Int64) (leftS : Nat → Int32) (roundsDoneS : Int32) (inSomeS inAllS : Nat → Int64) (manyM : Int32) (tableM : Nat → Int32) (cellsM : Nat → Int64) (ownerM codeM isOverM : Nat → Int32) (roundM : Int32) (allM someM : Nat → Int64) (isRuledM : Nat → Int32)
theorem case5 (hF : 1200 < F) (hE : EV ef el ec) {a : Nat → Nat} (ha : ∀ j k, j < 6 → k < 6 → a j = a k → j = k) {count known : Int32} {saved : Nat → Option Nat} {n q f l : Nat → Nat → Int32} {before : Nat → Int32} (hH : HI a count saved n q f l known before) (h : BR nu inF fi la s 0) :
    ∃ count' saved' n' q' f' l' inF' fi' la' arr' s' th' known' before' x1 x2 x3 x4 x5 x6 x7 x8 x9 x10 x11 y1 y2 y3 y4 y5 y6 y7 y8 y9 y10, fL_case5 F L (nI i) (a 0) (a 1) (a 2) (a 3) (a 4) (a 5) xs inF count saved nu (n 0) (q 0) fi (f 0) la (l 0) (n 1) (q 1) (f 1) (l 1) (n 2) (q 2) (f 2) (l 2) (n 3) (q 3) (f 3) (l 3) (n 4) (q 4) (f 4) (l 4) (n 5) (q 5) (f 5) (l 5) arr s th known before countX ec ef firstX el lastX cellsX ownerX openS numbersS leftS roundsDoneS inSomeS inAllS manyM tableM cellsM ownerM codeM isOverM roundM allM someM isRuledM = some (inF', x1, x2, x3, x4, x5, x6, x7, x8, x9, x10, x11, count', saved', (n' 0), (q' 0), fi', (f' 0), la', (l' 0), (n' 1), (q' 1), (f' 1), (l' 1), (n' 2), (q' 2), (f' 2), (l' 2), (n' 3), (q' 3), (f' 3), (l' 3), (n' 4), (q' 4), (f' 4), (l' 4), (n' 5), (q' 5), (f' 5), (l' 5), arr', th', y1, y2, s', y3, y4, y5, y6, y7, y8, y9, y10, known', before') ∧ HI a count' saved' n' q' f' l' known' before' ∧ BR nu inF' fi' la' s' 0 := by
  obtain ⟨aa, m, Lz, Rz, s1, a1, left1, a3, s3, over1, ru1, r1, r2, r3, r4, r5, r6, r7, r8, z1, z2⟩ := run_s hF hE h countX firstX lastX cellsX ownerX openS numbersS leftS roundsDoneS inSomeS inAllS manyM tableM cellsM ownerM codeM isOverM roundM allM someM isRuledM
  unfold fL_case5 fPaddockFieldsLaw_settle fX_settle fM_settle fX_runWithoutContradiction
  rw [z1, z2]
  simp only [Option.bind_some]
  rw [X_con (F := F) (by omega) r5, M_con (F := F) (by omega) h r7]
  rcases bI_cases (con nu inF Lz) with c | c
  · obtain ⟨saved', count', n', q', f', l', before', known', y1, y2, y3⟩ := save_s (F := F) (by omega) ha hH h
    obtain ⟨i', f1, l1, w1, w2⟩ := X_placeCertain (F := F) (by omega) r1 r6 r3 fi la
    obtain ⟨ru, u1, u2⟩ := M_settle1 (F := F) (by omega) r2 r8 ru1
    obtain ⟨s', u3, u4⟩ := M_settle2 (F := F) (by omega) r2 r3 u2 s
    have hB : BR nu i' f1 l1 s' 0 := h.many (fun _ => crt_same) (fun _ hr => crt_ok hr) w2 u4
    rw [c]
    simp only [Option.bind_some, if_true]
    rw [y1, y2, M_sure (F := F) (by omega) h r2 r8]
    simp only [Option.bind_some]
    rw [w1, u1]
    simp only [Option.bind_some]
    rw [u3]
    simp only [Option.bind_some, if_true, wr1, fM_thrown]
    rw [if_neg (by decide)]
    simp only [rd1, Option.bind_some, if_true]
    exact ⟨count', saved', n', q', f', l', i', f1, l1, _, s', _, known', before', _, _, _, _, _, _, _, _, _, _, _, _, _, _, _, _, _, _, _, _, _, rfl, y3, hB⟩
  · rw [c]
    exact ⟨count, saved, n, q, f, l, inF, fi, la, _, s, _, known, before, _, _, _, _, _, _, _, _, _, _, _, _, _, _, _, _, _, _, _, _, _, rfl, hH, h⟩
end CS2
