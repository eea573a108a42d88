/-! THE MATHEMATICS: fields that stand otherwise in the first way: the case. Own text. -/
section CSv
variable {F L i : Nat} {xs nu inF fi la s : Nat → Int32} {arr : Nat → Int64} {th : Int32} {ef el : Nat → Int32} {ec : Nat → Int64}
variable (countX : Int32) (firstX lastX : Nat → Int32) (cellsX : Nat → Int64) (ownerX : Nat → Int32) (manyM : Int32) (tableM : Nat → Int32) (cellsM : Nat → Int64) (ownerM codeM lastM chosenM cornerM wideM : Nat → Int32)
variable (numberW inFieldW firstW lastW : Nat → Int32) (limitW waysW : Int32) (chosenW : Nat → Int32) (numberB inFieldB firstB lastB asideM : Nat → Int32)
theorem case41 (hF : 8 ^ 43 < F) (hE : EV ef el ec) (h : BR nu inF fi la s 0) :
    ∃ arr' s' th' x1 x2 x3 x4 x5 w1 w2 w3 w4 w5 w6 w7 y1 y2 y3 y4 y5 y6 y7 y8 y9 b1 b2 b3 b4 b5, fL_case41 F L (nI i) xs inF nu fi la arr s th countX ec ef firstX el lastX cellsX ownerX manyM tableM cellsM ownerM codeM numberW inFieldW firstW lastW limitW waysW chosenW lastM chosenM cornerM wideM numberB inFieldB firstB lastB asideM = some (b1, b2, b3, b4, x1, x2, x3, x4, x5, w1, w2, w3, w4, w5, w6, w7, arr', th', s', b5, y1, y2, y3, y4, y5, y6, y7, y8, y9) ∧ BR nu inF fi la s' 0 := by
  have hF2 := big_F hF
  obtain ⟨nb, ib, fb, lb, u1, u2⟩ := copy_s (F := F) (by clear hF; omega) nu inF fi la h.bit numberB inFieldB firstB lastB
  obtain ⟨ic, u3, u4⟩ := removeFields_s (F := F) (by clear hF; omega) ib
  obtain ⟨t, as, v1, v2, v3⟩ := aside_L_s (F := F) (by clear hF; omega) s asideM
  have hB0 : BR nu ic fi la t 0 := h.clear u4 (fun k hk => (v2 k hk).1) v3
  have hB : BR nb ic fb lb t 0 := hB0.cong (fun k hk => (u2 k hk).1) (fun _ _ => rfl) (fun k hk => (u2 k hk).2.2.1) (fun k hk => (u2 k hk).2.2.2) (fun _ _ => rfl)
  obtain ⟨t2, v4, v5, v6⟩ := restore_L_s (F := F) (by clear hF; omega) as t
  have hS : BR nu inF fi la t2 0 := h.cong (fun _ _ => rfl) (fun _ _ => rfl) (fun _ _ => rfl) (fun _ _ => rfl) (fun k hk => by
    rw [Nat.zero_add]
    by_cases q : k < 42
    · rw [v6 k (Or.inl q), v3 k (Or.inl q)]
    · obtain ⟨j, rfl⟩ : ∃ j, k = 42 + j := ⟨k - 42, by clear hF; omega⟩
      rw [v5 j (by clear hF; omega), (v2 j (by clear hF; omega)).2])
  obtain ⟨aa, n1, i1, f1, k1, ch, a1, a2, a3, a4⟩ := countWays_s (nu := nb) (inF := ic) (F := F) (by clear hF; omega) hE (lim := 1) (by decide) (by decide) (fi := fb) (la := lb) hB.bit countX firstX lastX cellsX ownerX numberW inFieldW firstW lastW limitW waysW chosenW
  obtain ⟨m, l1, c1, c2, w1, m1, m2, m3⟩ := mways_s hF hB (most := 1) (by decide) (by decide) manyM tableM cellsM ownerM codeM lastM chosenM cornerM wideM
  unfold fL_case41 fPaddockFieldsLaw_strayFields fX_strayFields fM_strayFields fX_findFirstWay fCellSearch_firstWay
  rw [u1, show fM_strayFields_L7 F F (0 : Int32) s asideM = _ from v1]
  simp only [Option.bind_some]
  rw [u3]
  simp only [Option.bind_some]
  rw [show fCellSearch_countWays F (1 : Int32) ic nb countX ec ef firstX el lastX cellsX ownerX numberW inFieldW fb firstW lb lastW limitW waysW chosenW = _ from a2, show fM_ways F (1 : Int32) manyM tableM t cellsM ownerM codeM lastM chosenM cornerM wideM = _ from m2]
  simp only [Option.bind_some]
  rw [show fM_strayFields_L52 F as F (0 : Int32) t = _ from v4]
  simp only [Option.bind_some]
  rcases min1 (WW nb ic (Tk ic)) with ⟨c, cc⟩ | ⟨c, cc⟩
  · rw [cc]
    exact ⟨_, t2, _, _, _, _, _, _, _, _, _, _, _, _, _, _, _, _, _, _, _, _, _, _, _, _, _, _, _, rfl, hS⟩
  · obtain ⟨Z, z1, z2⟩ := WW_head c
    obtain ⟨z3, z4⟩ := FL_ok z2
    have w : FW Z i1 f1 k1 c2 := ⟨fun k hk r hr hb => ⟨((a4 Z z1 k hk).1 r hr hb).1, ((a4 Z z1 k hk).1 r hr hb).2.1, ((a4 Z z1 k hk).1 r hr hb).2.2, ((m3 Z z1 k hk).1 r hr hb).1⟩, fun r hr => (z3 r hr).1, fun k hk => (z4 k hk).resolve_left (fun e => e (u4 k hk))⟩
    obtain ⟨n', g1, g2⟩ := stray_count (F := F) (by clear hF; omega) w hS 42 0 F 0 rfl (by clear hF; omega)
    rw [cc, if_pos (show ¬ (1 : Int32) = 0 by decide), if_pos (show ¬ (1 : Int32) = 0 by decide)]
    unfold fBoard_countFieldsMissingIn
    simp only [Option.bind_some, if_true]
    rw [show fBoard_countFieldsMissingIn_L4 F inF fi i1 f1 k1 la F (0 : Int32) (0 : Int32) = _ from g1, show fM_strayFields_L93 F t2 c2 F (0 : Int32) (0 : Int32) = _ from g2]
    simp only [Option.bind_some, if_true, wr1, fM_thrown]
    rw [if_neg (by decide)]
    simp only [rd1, Option.bind_some, if_true]
    exact ⟨_, t2, _, _, _, _, _, _, _, _, _, _, _, _, _, _, _, _, _, _, _, _, _, _, _, _, _, _, _, rfl, hS⟩
end CSv
