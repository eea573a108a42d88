/-! THE MATHEMATICS: the corner in the first way. Own text. -/
theorem nI_p1 (a : Nat) : nI (a + 1) - (1 : Int32) = nI a := by
  rw [show (1 : Int32) = nI 1 from rfl, nI_sub (by omega)]
  congr 1
section CF
variable {F L i : Nat} {xs nu inF fi la s : Nat → Int32} {arr : Nat → Int64} {th : Int32} {ef el : Nat → Int32} {ec : Nat → Int64}
variable (countX : Int32) (firstX lastX : Nat → Int32) (cellsX : Nat → Int64) (ownerX : Nat → Int32) (manyM : Int32) (tableM : Nat → Int32) (cellsM : Nat → Int64) (ownerM codeM lastM chosenM cornerM wideM : Nat → Int32)
variable (numberW inFieldW firstW lastW : Nat → Int32) (limitW waysW : Int32) (chosenW : Nat → Int32)
theorem case40 (hF : 8 ^ 43 < F) (hE : EV ef el ec) (h : BR nu inF fi la s 0) (hi : i + 4 < L) (hL : L < 2 ^ 31) : ∃ out, fL_case40 F L (nI i) xs inF nu fi la arr s th countX ec ef firstX el lastX cellsX ownerX manyM tableM cellsM ownerM codeM numberW inFieldW firstW lastW limitW waysW chosenW lastM chosenM cornerM wideM = some out := by
  have hF2 := big_F hF
  unfold fL_case40
  rw [show (1 : Int32) = nI 1 from rfl, show (2 : Int32) = nI 2 from rfl, rdk (by omega) hL, rdk (by omega) hL]
  simp only [Option.bind_some]
  unfold fPaddockFieldsLaw_cornerInFirst fX_cornerInFirst fM_cornerInFirst fM_inFirst fX_findFirstWay fCellSearch_firstWay
  rcases there0 s (xs (i + 1)) (xs (i + 2)) th with ⟨e1, e2⟩ | ⟨r, q, hr, hq, ex, ey, e1, e2⟩
  · rw [e1, e2]
    exact ⟨_, rfl⟩
  · have hk : 7 * r + q < 42 := by clear hF; omega
    obtain ⟨a, n1, i1, f1, k1, ch, a1, a2, a3, a4⟩ := countWays_s (nu := nu) (inF := inF) (F := F) (by clear hF; omega) hE (lim := 1) (by decide) (by decide) (fi := fi) (la := la) h.bit countX firstX lastX cellsX ownerX numberW inFieldW firstW lastW limitW waysW chosenW
    obtain ⟨m, l1, c1, c2, w1, m1, m2, m3⟩ := mways_s hF h (most := 1) (by decide) (by decide) manyM tableM cellsM ownerM codeM lastM chosenM cornerM wideM
    rw [e1, e2, ex, ey]
    simp only [Option.bind_some, if_true, m7]
    rw [if_pos (show ¬ (1 : Int32) = 0 by decide), show fCellSearch_countWays F (1 : Int32) inF nu countX ec ef firstX el lastX cellsX ownerX numberW inFieldW fi firstW la lastW limitW waysW chosenW = _ from a2, show fM_ways F (1 : Int32) manyM tableM s cellsM ownerM codeM lastM chosenM cornerM wideM = _ from m2]
    simp only [Option.bind_some]
    rcases min1 (WW nu inF (Tk inF)) with ⟨c, cc⟩ | ⟨c, cc⟩
    · rw [cc]
      exact ⟨_, rfl⟩
    · obtain ⟨Z, z1, z2⟩ := WW_head c
      obtain ⟨z3, z4⟩ := FL_ok z2
      have hs : f1 (7 * r + q) = c2 (7 * r + q) := by
        by_cases hin : ∃ r2, r2 ∈ Z ∧ inb r2.1 r2.2 (7 * r + q) = true
        · obtain ⟨r2, u1, u2⟩ := hin
          obtain ⟨-, p2, -⟩ := ((a4 Z z1) _ hk).1 r2 u1 u2
          obtain ⟨p3, -⟩ := ((m3 Z z1) _ hk).1 r2 u1 u2
          rw [p2, p3]
        · have hno : ∀ r2, r2 ∈ Z → inb r2.1 r2.2 (7 * r + q) = false := fun r2 hr2 => by
            cases hb : inb r2.1 r2.2 (7 * r + q)
            · rfl
            · exact absurd ⟨r2, hr2, hb⟩ hin
          have hone : inF (7 * r + q) = 1 := by
            rcases z4 _ hk with e | e
            · rcases h.inF hk with g | g
              · exact absurd g e
              · exact g
            · exact absurd e hin
          obtain ⟨-, p2, -⟩ := ((a4 Z z1) _ hk).2 hno
          obtain ⟨p3, -⟩ := ((m3 Z z1) _ hk).2 hno
          obtain ⟨A, B, hab, hi2, g1, g2, g3, -, -⟩ := h.field hk hone
          rw [p2, p3, g1, g3, nI_p1]
      rw [cc, if_pos (show ¬ (1 : Int32) = 0 by decide), if_pos (show ¬ (1 : Int32) = 0 by decide), if_neg (show ¬ (1 : Int32) = 0 by decide)]
      simp only [Option.bind_some, if_true]
      rw [firstOfField_s hk, o_rd_s hk (by decide), hs]
      simp only [Option.bind_some, if_true, wr1, fM_thrown]
      rw [if_neg (by decide)]
      simp only [rd1, Option.bind_some, if_true]
      exact ⟨_, rfl⟩
end CF
