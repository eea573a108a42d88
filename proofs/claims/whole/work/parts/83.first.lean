/-! THE MATHEMATICS: the first way, case by case. Own text. -/
section CF
variable {F L i : Nat} {xs nu inF fi la s : Nat → Int32} {arr : Nat → Int64} {th : Int32} {ef el : Nat → Int32} {ec : Nat → Int64}
theorem fils_ok : ∀ (D : Nat) (cov : Int64), inB cov → ∀ Z, Z ∈ fils nu inF D cov → (∀ r, r ∈ Z → r ∈ XL nu inF) ∧ ∀ k, k < 42 → tb cov k = true ∨ ∃ r, r ∈ Z ∧ inb r.1 r.2 k = true
  | 0, cov, hb, Z, hZ => by
    rw [fils] at hZ
    by_cases c : cov = ALL
    · rw [if_pos c] at hZ
      obtain rfl := List.mem_singleton.mp hZ
      refine ⟨fun r hr => (nomatch hr), fun k hk => Or.inl ?_⟩
      rw [c, tb_ALL]
      exact decide_eq_true hk
    · rw [if_neg c] at hZ
      exact (nomatch hZ)
  | D + 1, cov, hb, Z, hZ => by
    rw [fils] at hZ
    by_cases c : cov = ALL
    · rw [if_pos c] at hZ
      obtain rfl := List.mem_singleton.mp hZ
      refine ⟨fun r hr => (nomatch hr), fun k hk => Or.inl ?_⟩
      rw [c, tb_ALL]
      exact decide_eq_true hk
    · rw [if_neg c] at hZ
      obtain ⟨r, hr, hZ⟩ := List.mem_flatMap.mp hZ
      obtain ⟨Y, hY, rfl⟩ := List.mem_map.mp hZ
      obtain ⟨h1, h2⟩ := fils_ok D (cov ||| cs r) (inB_or hb (inB_cs' r)) Y hY
      refine ⟨fun r2 hr2 => ?_, fun k hk => ?_⟩
      · rcases List.mem_cons.mp hr2 with e | e
        · rw [e]
          exact (mem_cnd.mp hr).1
        · exact h1 r2 e
      · rcases h2 k hk with e | ⟨r2, e1, e2⟩
        · rw [tb_oc hk, Bool.or_eq_true] at e
          rcases e with e | e
          · exact Or.inl e
          · exact Or.inr ⟨r, List.mem_cons_self, e⟩
        · exact Or.inr ⟨r2, List.mem_cons_of_mem _ e1, e2⟩
theorem FL_ok {Z : List (Nat × Nat)} (h : Z ∈ FL nu inF (Tk inF)) : (∀ r, r ∈ Z → RC r.1 r.2 ∧ ∀ k, k < 42 → inb r.1 r.2 k = true → inF k = 0) ∧ ∀ k, k < 42 → inF k ≠ 0 ∨ ∃ r, r ∈ Z ∧ inb r.1 r.2 k = true := by
  obtain ⟨h1, h2⟩ := fils_ok 43 (Tk inF) (inB_Tk inF) Z h
  refine ⟨fun r hr => ?_, fun k hk => ?_⟩
  · obtain ⟨h3, h4⟩ := mem_XL.mp (h1 r hr)
    exact ⟨h3, fun k hk e => OKfree h4 hk e⟩
  · rcases h2 k hk with e | e
    · rw [tb_Tk hk] at e
      exact Or.inl (of_decide_eq_true e)
    · exact Or.inr e
theorem WW_head (h : WW nu inF (Tk inF) ≠ 0) : ∃ Z, (FL nu inF (Tk inF)).head? = some Z ∧ Z ∈ FL nu inF (Tk inF) := by
  unfold WW at h
  revert h
  cases FL nu inF (Tk inF) with
  | nil => exact fun h => absurd rfl h
  | cons Z t => exact fun _ => ⟨Z, rfl, List.mem_cons_self⟩
theorem min1 (n : Nat) : (n = 0 ∧ nI (min 1 n) = (0 : Int32)) ∨ (n ≠ 0 ∧ nI (min 1 n) = (1 : Int32)) := by
  by_cases c : n = 0
  · rw [c]
    exact Or.inl ⟨rfl, rfl⟩
  · rw [show min 1 n = 1 by omega]
    exact Or.inr ⟨c, rfl⟩
theorem sizeOfField_e {k a b : Nat} (hk : k < 42) {f l : Nat → Int32} (h1 : f k = nI a) (h2 : l k = nI b) (hr : RC a b) : fBoard_sizeOfField (nI k) f l = some (nI (fb_ct (inb a b) 42)) := by
  unfold fBoard_sizeOfField
  rw [fX_isCell_s hk, Option.bind_some, if_neg (by decide), o_rd_s hk (by decide), o_rd_s hk (by decide), Option.bind_some, Option.bind_some, h1, h2, sizeOf_s hr]
  rfl
theorem sizeOfField_c {k : Nat} (hk : k < 42) {f l f' l' : Nat → Int32} (h1 : f' k = f k) (h2 : l' k = l k) : fBoard_sizeOfField (nI k) f' l' = fBoard_sizeOfField (nI k) f l := by
  unfold fBoard_sizeOfField
  rw [o_rd_s hk (by decide), o_rd_s hk (by decide), o_rd_s hk (by decide), o_rd_s hk (by decide), h1, h2]
variable (countX : Int32) (firstX lastX : Nat → Int32) (cellsX : Nat → Int64) (ownerX : Nat → Int32) (manyM : Int32) (tableM : Nat → Int32) (cellsM : Nat → Int64) (ownerM codeM lastM chosenM cornerM wideM : Nat → Int32)
variable (numberW inFieldW firstW lastW : Nat → Int32) (limitW waysW : Int32) (chosenW : Nat → Int32)
theorem case39 (hF : 8 ^ 43 < F) (hE : EV ef el ec) (h : BR nu inF fi la s 0) (hi : i + 4 < L) (hL : L < 2 ^ 31) : ∃ out, fL_case39 F L (nI i) xs inF nu fi la arr s th countX ec ef firstX el lastX cellsX ownerX manyM tableM cellsM ownerM codeM numberW inFieldW firstW lastW limitW waysW chosenW lastM chosenM cornerM wideM = some out := by
  have hF2 := big_F hF
  unfold fL_case39
  rw [show (1 : Int32) = nI 1 from rfl, show (2 : Int32) = nI 2 from rfl, rdk (by omega) hL, rdk (by omega) hL]
  simp only [Option.bind_some]
  unfold fPaddockFieldsLaw_sizeInFirst fX_sizeInFirst fM_sizeInFirst fM_inFirst fX_findFirstWay fCellSearch_firstWay
  rcases there0 s (xs (i + 1)) (xs (i + 2)) th with ⟨e1, e2⟩ | ⟨r, q, hr, hq, ex, ey, e1, e2⟩
  · rw [e1, e2]
    exact ⟨_, rfl⟩
  · have hk : 7 * r + q < 42 := by clear hF; omega
    obtain ⟨a, n1, i1, f1, k1, ch, a1, a2, a3, a4⟩ := countWays_s (nu := nu) (inF := inF) (F := F) (by clear hF; omega) hE (lim := 1) (by decide) (by decide) (fi := fi) (la := la) h.bit countX firstX lastX cellsX ownerX numberW inFieldW firstW lastW limitW waysW chosenW
    obtain ⟨m, l1, c1, c2, w1, m1, m2, m3⟩ := mways_s hF h (most := 1) (by decide) (by decide) manyM tableM cellsM ownerM codeM lastM chosenM cornerM wideM
    rw [e1, e2, ex, ey]
    simp only [Option.bind_some, if_true, m7]
    rw [if_pos (show ¬ (1 : Int32) = 0 by decide), show fCellSearch_countWays F (1 : Int32) inF nu countX ec ef firstX el lastX cellsX ownerX numberW inFieldW fi firstW la lastW limitW waysW chosenW = _ from a2, show fM_ways F (1 : Int32) manyM tableM s cellsM ownerM codeM lastM chosenM cornerM wideM = _ from m2]
    simp only [Option.bind_some]
    rcases min1 (WW nu inF (Tk inF)) with ⟨c, cc⟩ | ⟨c, cc⟩
    · rw [cc]
      exact ⟨_, rfl⟩
    · obtain ⟨Z, z1, z2⟩ := WW_head c
      obtain ⟨z3, z4⟩ := FL_ok z2
      have hs : ∃ v, fBoard_sizeOfField (nI (7 * r + q)) f1 k1 = some v ∧ w1 (7 * r + q) = v := by
        by_cases hin : ∃ r2, r2 ∈ Z ∧ inb r2.1 r2.2 (7 * r + q) = true
        · obtain ⟨r2, u1, u2⟩ := hin
          obtain ⟨-, p2, p3⟩ := ((a4 Z z1) _ hk).1 r2 u1 u2
          obtain ⟨-, p4⟩ := ((m3 Z z1) _ hk).1 r2 u1 u2
          exact ⟨_, sizeOfField_e hk p2 p3 (z3 r2 u1).1, p4⟩
        · have hno : ∀ r2, r2 ∈ Z → inb r2.1 r2.2 (7 * r + q) = false := fun r2 hr2 => by
            cases hb : inb r2.1 r2.2 (7 * r + q)
            · rfl
            · exact absurd ⟨r2, hr2, hb⟩ hin
          have hone : inF (7 * r + q) = 1 := by
            rcases z4 _ hk with e | e
            · rcases h.inF hk with g | g
              · exact absurd g e
              · exact g
            · exact absurd e hin
          obtain ⟨-, p2, p3⟩ := ((a4 Z z1) _ hk).2 hno
          obtain ⟨v, p4, p5⟩ := (((m3 Z z1) _ hk).2 hno).2 hone
          exact ⟨nI v, (sizeOfField_c hk p2 p3).trans p5, p4⟩
      obtain ⟨v, v1, v2⟩ := hs
      rw [cc, if_pos (show ¬ (1 : Int32) = 0 by decide), if_pos (show ¬ (1 : Int32) = 0 by decide)]
      simp only [Option.bind_some, if_true]
      rw [v1, o_rd_s hk (by decide), v2]
      simp only [Option.bind_some, if_true, wr1, fM_thrown]
      rw [if_neg (by decide)]
      simp only [rd1, Option.bind_some, if_true]
      exact ⟨_, rfl⟩
end CF
