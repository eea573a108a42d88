/-! THE MATHEMATICS: the ways, case by case. Own text. -/
section CV
variable {F L i : Nat} {xs nu inF fi la s : Nat → Int32} {arr : Nat → Int64} {th : Int32} {ef el : Nat → Int32} {ec : Nat → Int64}
variable (countX : Int32) (firstX lastX : Nat → Int32) (cellsX : Nat → Int64) (ownerX : Nat → Int32) (manyM : Int32) (tableM : Nat → Int32) (cellsM : Nat → Int64) (ownerM codeM lastM chosenM cornerM wideM : Nat → Int32)
theorem big_F (hF : 8 ^ 43 < F) : 2000 < F := Nat.lt_trans (by decide) hF
theorem case36 (hF : 8 ^ 43 < F) (hE : EV ef el ec) (h : BR nu inF fi la s 0) (numbersN : Int64) (waysN : Int32) (choicesN : Nat → Int32) : ∃ out, fL_case36 F L (nI i) xs inF nu s th countX ec ef firstX el lastX cellsX ownerX manyM tableM cellsM ownerM codeM lastM chosenM cornerM wideM numbersN waysN choicesN = some out := by
  have hF2 := big_F hF
  obtain ⟨a, nm, ch, a1, a2⟩ := numWays_s (nu := nu) (inF := inF) (F := F) (by clear hF; omega) hE countX firstX lastX cellsX ownerX numbersN waysN choicesN
  obtain ⟨m, l1, c1, c2, w1, m1, m2, -⟩ := mways_s hF h (most := 50) (by decide) (by decide) manyM tableM cellsM ownerM codeM lastM chosenM cornerM wideM
  unfold fL_case36 fX_waysByNumbers fM_waysByNumbers
  rw [a2, show fM_ways F (50 : Int32) manyM tableM s cellsM ownerM codeM lastM chosenM cornerM wideM = _ from m2]
  simp only [Option.bind_some, if_true]
  exact ⟨_, rfl⟩
variable (numberW inFieldW firstW lastW : Nat → Int32) (limitW waysW : Int32) (chosenW : Nat → Int32)
theorem case37 (hF : 8 ^ 43 < F) (hE : EV ef el ec) (h : BR nu inF fi la s 0) : ∃ out, fL_case37 F L (nI i) xs inF nu fi la s th countX ec ef firstX el lastX cellsX ownerX manyM tableM cellsM ownerM codeM numberW inFieldW firstW lastW limitW waysW chosenW lastM chosenM cornerM wideM = some out := by
  have hF2 := big_F hF
  obtain ⟨a, n1, i1, f1, k1, ch, a1, a2, -, -⟩ := countWays_s (nu := nu) (inF := inF) (F := F) (by clear hF; omega) hE (lim := 50) (by decide) (by decide) (fi := fi) (la := la) h.bit countX firstX lastX cellsX ownerX numberW inFieldW firstW lastW limitW waysW chosenW
  obtain ⟨m, l1, c1, c2, w1, m1, m2, -⟩ := mways_s hF h (most := 50) (by decide) (by decide) manyM tableM cellsM ownerM codeM lastM chosenM cornerM wideM
  unfold fL_case37 fX_waysByCells fM_waysByCells
  rw [show fCellSearch_countWays F (50 : Int32) inF nu countX ec ef firstX el lastX cellsX ownerX numberW inFieldW fi firstW la lastW limitW waysW chosenW = _ from a2, show fM_ways F (50 : Int32) manyM tableM s cellsM ownerM codeM lastM chosenM cornerM wideM = _ from m2]
  simp only [Option.bind_some, if_true]
  exact ⟨_, rfl⟩
theorem case38 (hF : 8 ^ 43 < F) (hE : EV ef el ec) (h : BR nu inF fi la s 0) : ∃ out, fL_case38 F L (nI i) xs inF nu fi la s th countX ec ef firstX el lastX cellsX ownerX manyM tableM cellsM ownerM codeM numberW inFieldW firstW lastW limitW waysW chosenW lastM chosenM cornerM wideM = some out := by
  have hF2 := big_F hF
  obtain ⟨a, n1, i1, f1, k1, ch, a1, a2, -, -⟩ := countWays_s (nu := nu) (inF := inF) (F := F) (by clear hF; omega) hE (lim := 2) (by decide) (by decide) (fi := fi) (la := la) h.bit countX firstX lastX cellsX ownerX numberW inFieldW firstW lastW limitW waysW chosenW
  obtain ⟨m, l1, c1, c2, w1, m1, m2, -⟩ := mways_s hF h (most := 2) (by decide) (by decide) manyM tableM cellsM ownerM codeM lastM chosenM cornerM wideM
  unfold fL_case38 fX_isUnique fM_isUnique
  rw [show fCellSearch_countWays F (2 : Int32) inF nu countX ec ef firstX el lastX cellsX ownerX numberW inFieldW fi firstW la lastW limitW waysW chosenW = _ from a2, show fM_ways F (2 : Int32) manyM tableM s cellsM ownerM codeM lastM chosenM cornerM wideM = _ from m2]
  simp only [Option.bind_some]
  by_cases c : nI (min 2 (WW nu inF (Tk inF))) = (1 : Int32)
  · rw [if_neg (not_not_intro c), if_neg (not_not_intro c)]
    exact ⟨_, rfl⟩
  · rw [if_pos c, if_pos c]
    exact ⟨_, rfl⟩
end CV
