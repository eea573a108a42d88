/-! THE MATHEMATICS: the board is finished, the case. Own text. -/
section CFi
variable {F L i : Nat} {xs nu inF fi la s : Nat → Int32} {arr : Nat → Int64} {th : Int32} {ef el : Nat → Int32} {ec : Nat → Int64}
theorem finish_L_s (hF : 42 < F) (co s0 : Nat → Int32) : ∃ t, fM_finish_L30 F co F (nI 0) s0 = some (nI 42, t) ∧ (∀ k, k < 42 → t (42 + k) = co k + 1) ∧ ∀ k, k < 42 → t k = s0 k := by
  obtain ⟨b, hb, e⟩ := lp0 42 hF (fun N i (b : Nat → Int32) => fM_finish_L30 F co N (nI i) b) (fun b => (nI 42, b)) (fun i b => (∀ k, k < i → b (42 + k) = co k + 1) ∧ ∀ k, k < 42 → b k = s0 k) (a := s0)
    ⟨fun k hk => by omega, fun _ _ => rfl⟩
    (fun i b hi hb => by
      have e1 := ge42 hi
      have e0 : (42 : Int32) + nI i = nI (42 + i) := nI_add 42 i
      refine ⟨upd b (42 + i) (co i + 1), ⟨fun k hk => ?_, fun k hk => ?_⟩, fun N => ?_⟩
      · by_cases q : k = i
        · subst q; rw [upd_at]
        · rw [upd_off _ _ (by omega)]; exact hb.1 k (by omega)
      · rw [upd_off _ _ (by omega)]; exact hb.2 k hk
      · simp only [fM_finish_L30, e1, if_false, e0, o_rd_s hi (show 42 < 2 ^ 31 by decide), o_wrI_s (show 42 + i < 84 by omega) (show 84 < 2 ^ 31 by decide), Option.bind_some, nI_1])
    (fun N b hb => by simp only [fM_finish_L30, le42, if_true])
  exact ⟨b, e, hb⟩
theorem RM.dl {Z : List (Nat × Nat)} {co wi t : Nat → Int32} (h : RM inF fi la s Z co wi) (h1 : ∀ k, k < 42 → t (42 + k) = co k + 1) (h2 : ∀ k, k < 42 → t k = s k) : DL Z s t := by
  refine ⟨fun k hk => ⟨fun r hr hb => ?_, fun hn => ?_⟩, h2⟩
  · rw [h1 k hk, ((h k hk).1 r hr hb).1]
    exact nI_add r.1 1
  · rw [h1 k hk, ((h k hk).2 hn).1]
    exact Int32.sub_add_cancel _ _
variable (countX : Int32) (firstX lastX : Nat → Int32) (cellsX : Nat → Int64) (ownerX : Nat → Int32) (manyM : Int32) (tableM : Nat → Int32) (cellsM : Nat → Int64) (ownerM codeM lastM chosenM cornerM wideM : Nat → Int32)
variable (numberW inFieldW firstW lastW : Nat → Int32) (limitW waysW : Int32) (chosenW : Nat → Int32)
theorem case6 (hF : 8 ^ 43 < F) (hE : EV ef el ec) {a : Nat → Nat} (ha : ∀ j k, j < 6 → k < 6 → a j = a k → j = k) {count known : Int32} {saved : Nat → Option Nat} {n q f l : Nat → Nat → Int32} {before : Nat → Int32} (hH : HI a count saved n q f l known before) (h : BR nu inF fi la s 0) :
    ∃ count' saved' n' q' f' l' nu' inF' fi' la' arr' s' th' known' before' x1 x2 x3 x4 x5 w1 w2 w3 w4 w5 w6 w7 y1 y2 y3 y4 y5 y6 y7 y8 y9, fL_case6 F L (nI i) (a 0) (a 1) (a 2) (a 3) (a 4) (a 5) xs inF count saved nu (n 0) (q 0) fi (f 0) la (l 0) (n 1) (q 1) (f 1) (l 1) (n 2) (q 2) (f 2) (l 2) (n 3) (q 3) (f 3) (l 3) (n 4) (q 4) (f 4) (l 4) (n 5) (q 5) (f 5) (l 5) arr s th known before countX ec ef firstX el lastX cellsX ownerX manyM tableM cellsM ownerM codeM numberW inFieldW firstW lastW limitW waysW chosenW lastM chosenM cornerM wideM = some (inF', nu', x1, x2, x3, x4, x5, w1, w2, fi', w3, la', w4, w5, w6, w7, count', saved', (n' 0), (q' 0), (f' 0), (l' 0), (n' 1), (q' 1), (f' 1), (l' 1), (n' 2), (q' 2), (f' 2), (l' 2), (n' 3), (q' 3), (f' 3), (l' 3), (n' 4), (q' 4), (f' 4), (l' 4), (n' 5), (q' 5), (f' 5), (l' 5), arr', th', y1, y2, s', y3, y4, y5, y6, y7, y8, y9, known', before') ∧ HI a count' saved' n' q' f' l' known' before' ∧ BR nu' inF' fi' la' s' 0 := by
  have hF2 := big_F hF
  obtain ⟨aa, n1, i1, f1, k1, ch, a1, a2, a3, a4⟩ := countWays_s (nu := nu) (inF := inF) (F := F) (by clear hF; omega) hE (lim := 1) (by decide) (by decide) (fi := fi) (la := la) h.bit countX firstX lastX cellsX ownerX numberW inFieldW firstW lastW limitW waysW chosenW
  obtain ⟨m, l1, c1, c2, w1, m1, m2, m3⟩ := mways_s hF h (most := 1) (by decide) (by decide) manyM tableM cellsM ownerM codeM lastM chosenM cornerM wideM
  unfold fL_case6 fPaddockFieldsLaw_finish fX_finish fM_finish fX_findFirstWay fCellSearch_firstWay
  rw [show fCellSearch_countWays F (1 : Int32) inF nu countX ec ef firstX el lastX cellsX ownerX numberW inFieldW fi firstW la lastW limitW waysW chosenW = _ from a2, show fM_ways F (1 : Int32) manyM tableM s cellsM ownerM codeM lastM chosenM cornerM wideM = _ from m2]
  simp only [Option.bind_some]
  rcases min1 (WW nu inF (Tk inF)) with ⟨c, cc⟩ | ⟨c, cc⟩
  · rw [cc]
    exact ⟨count, saved, n, q, f, l, nu, inF, fi, la, _, s, _, known, before, _, _, _, _, _, _, _, _, _, _, _, _, _, _, _, _, _, _, _, _, _, rfl, hH, h⟩
  · obtain ⟨Z, z1, z2⟩ := WW_head c
    obtain ⟨z3, z4⟩ := FL_ok z2
    obtain ⟨saved', count', n', q', f', l', before', known', y1, y2, y3⟩ := save_s (F := F) (by clear hF; omega) ha hH h
    obtain ⟨t, t1, t2, t3⟩ := finish_L_s (F := F) (by clear hF; omega) c2 s
    have hB0 : BR nu i1 f1 k1 t 0 := h.many (fun _ => Iff.rfl) z3 (a4 Z z1) ((m3 Z z1).dl t2 t3)
    obtain ⟨n2, i2, f2, k2, u1, u2⟩ := copy_s (F := F) (by clear hF; omega) n1 i1 f1 k1 hB0.bit nu inF fi la
    have hB : BR n2 i2 f2 k2 t 0 := hB0.cong (fun k hk => ((u2 k hk).1).trans (a3 k hk)) (fun k hk => (u2 k hk).2.1) (fun k hk => (u2 k hk).2.2.1) (fun k hk => (u2 k hk).2.2.2) (fun _ _ => rfl)
    obtain ⟨g, -, g1, g2⟩ := h.count (F := F) (by clear hF; omega)
    obtain ⟨g', -, g3, g4⟩ := hB.count (F := F) (by clear hF; omega)
    rw [cc, if_pos (show ¬ (1 : Int32) = 0 by decide), if_pos (show ¬ (1 : Int32) = 0 by decide)]
    simp only [Option.bind_some, if_true]
    rw [y1, y2, g1, g2, u1]
    simp only [Option.bind_some]
    rw [show fM_finish_L30 F c2 F (0 : Int32) s = _ from t1, g3]
    simp only [Option.bind_some]
    rw [g4]
    simp only [Option.bind_some, if_true, wr1, fM_thrown]
    rw [if_neg (by decide)]
    simp only [rd1, Option.bind_some, if_true]
    exact ⟨count', saved', n', q', f', l', n2, i2, f2, k2, _, t, _, known', before', _, _, _, _, _, _, _, _, _, _, _, _, _, _, _, _, _, _, _, _, _, rfl, y3, hB⟩
end CFi
