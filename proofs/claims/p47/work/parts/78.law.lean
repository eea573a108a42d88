/-! p47, THE MATHEMATICS: the law's loop and the law have an answer. Printed by wip/gen/law78.py. Own text. -/
section LW
variable {F L : Nat} {a : Nat → Nat} {xs ef el : Nat → Int32} {ec : Nat → Int64}
theorem scriptCell_s (hL : L < 2 ^ 31) (xs : Nat → Int32) {i : Nat} (hi : i < 2 ^ 31) : ∃ v, fPaddockFieldsLaw_cell L (nI i) xs = some v := by
  by_cases c : L ≤ i
  · exact ⟨_, if_pos (show Int32.ofNat L ≤ nI i from nI_le c hi)⟩
  · refine ⟨xs i, ?_⟩
    unfold fPaddockFieldsLaw_cell
    rw [if_neg (show ¬ Int32.ofNat L ≤ nI i from nI_ge (Nat.lt_of_not_le c) hL), o_rd_s (Nat.lt_of_not_le c) hL, Option.bind_some]
set_option maxHeartbeats 4000000 in
set_option maxRecDepth 100000 in
theorem lawLoop_s (hF : 1200 < F) (ha : ∀ j k, j < 6 → k < 6 → a j = a k → j = k) (hE : EV ef el ec) (hL : L < 2 ^ 31) : ∀ (N i : Nat), i ≤ 36 → 36 < i + N → ∀ (count : Int32) (saved : Nat → Option Nat) (n q f l : Nat → Nat → Int32) (nu inF fi la : Nat → Int32) (D : List (Nat × Nat)) (c0 : Int32) (f0 : Nat → Int32) (l0 : Nat → Int32) (s0 : Nat → Int64) (o0 : Nat → Int32) (mx0 : Int64) (mc0 : Int32) (mf0 : Nat → Int32) (ml0 : Nat → Int32) (wn : Nat → Int32) (wi : Nat → Int32) (wf : Nat → Int32) (wl : Nat → Int32) (li0 : Int32) (wy0 : Int32) (ch0 : Nat → Int32) (op0 : Int64) (nm0 : Int64) (lf0 : Nat → Int32) (rd0 : Int32) (is0 : Nat → Int64) (ia0 : Nat → Int64) (nn0 : Int64) (nw0 : Int32) (nc0 : Nat → Int32) (bn0 : Nat → Int32) (bi0 : Nat → Int32) (bf0 : Nat → Int32) (bl0 : Nat → Int32), HS a count saved n q f l → FB nu inF fi la D → ∃ r, fPaddockFieldsLaw_law_L30 F L (a 0) (a 1) (a 2) (a 3) (a 4) (a 5) xs ec ef el N (nI i) inF nu c0 f0 l0 s0 o0 count saved (n 0) (q 0) fi (f 0) la (l 0) (n 1) (q 1) (f 1) (l 1) (n 2) (q 2) (f 2) (l 2) (n 3) (q 3) (f 3) (l 3) (n 4) (q 4) (f 4) (l 4) (n 5) (q 5) (f 5) (l 5) mx0 mc0 mf0 ml0 wn wi wf wl li0 wy0 ch0 op0 nm0 lf0 rd0 is0 ia0 nn0 nw0 nc0 bn0 bi0 bf0 bl0 = some r := by
  intro N
  induction N with
  | zero => exact fun i h1 h2 => absurd h2 (by omega)
  | succ N ih =>
    intro i h1 h2 count saved n q f l nu inF fi la D c0 f0 l0 s0 o0 mx0 mc0 mf0 ml0 wn wi wf wl li0 wy0 ch0 op0 nm0 lf0 rd0 is0 ia0 nn0 nw0 nc0 bn0 bi0 bf0 bl0 hH h
    rw [fPaddockFieldsLaw_law_L30]
    by_cases c : i = 36
    · exact ⟨_, if_pos (show (36 : Int32) ≤ nI i by rw [c]; decide)⟩
    · obtain ⟨v, ev⟩ := scriptCell_s hL xs (i := i) (by omega)
      obtain ⟨w, ew⟩ := scriptCell_s hL xs (i := i + 20) (by omega)
      have ew2 : fPaddockFieldsLaw_cell L (nI i + (20 : Int32)) xs = some w := by rw [show nI i + (20 : Int32) = nI (i + 20) from nI_add i 20]; exact ew
      obtain ⟨c', f1, l1, s1, o1, saved', count', n', q', f', l', inF', fi', la', nu', mx', mc', mf', ml', wn1, wi1, wf1, wl1, li1, wy1, ch1, op1, nm1, lf1, rd1, is1, ia1, D', ed, hH', hB⟩ := does_s hF ha hH hE h v w mx0 mc0 mf0 ml0 c0 f0 l0 s0 o0 wn wi wf wl li0 wy0 ch0 op0 nm0 lf0 rd0 is0 ia0
      obtain ⟨z7, e7⟩ := areFieldsSo_s (F := F) (by omega) hE hB c' f1 l1 s1 o1
      have hs : nI i + (1 : Int32) = nI (i + 1) := nI_add i 1
      rw [if_neg (show ¬ (36 : Int32) ≤ nI i from nI_ge (b := 36) (by omega) (by decide)), ev, Option.bind_some, ew2, Option.bind_some, ed, Option.bind_some]
      dsimp only
      rw [if_neg one_n0, e7, Option.bind_some]
      dsimp only
      rw [if_neg one_n0, hs]
      by_cases c1 : ¬ (nI i - nI i / (2 : Int32) * (2 : Int32)) = (0 : Int32)
      · rw [if_pos c1]
        dsimp only [Option.bind_some]
        by_cases c2 : ¬ (nI i - nI i / (4 : Int32) * (4 : Int32)) = (1 : Int32)
        · rw [if_pos c2]
          dsimp only [Option.bind_some]
          exact ih (i + 1) (by omega) (by omega) count' saved' n' q' f' l' nu' inF' fi' la' D' _ _ _ _ _ _ _ _ _ _ _ _ _ _ _ _ _ _ _ _ _ _ _ _ _ _ _ _ _ hH' hB
        · obtain ⟨z10, e10⟩ := areWaysSo_s hF hE hB z7.1 z7.2.1 z7.2.2.1 z7.2.2.2.1 z7.2.2.2.2 wn1 wi1 wf1 wl1 li1 wy1 ch1 nn0 nw0 nc0 op1 nm1 lf1 rd1 is1 ia1 bn0 bi0 bf0 bl0
          rw [if_neg c2, e10, Option.bind_some]
          dsimp only
          rw [if_pos one_n0]
          dsimp only [Option.bind_some]
          exact ih (i + 1) (by omega) (by omega) count' saved' n' q' f' l' nu' inF' fi' la' D' _ _ _ _ _ _ _ _ _ _ _ _ _ _ _ _ _ _ _ _ _ _ _ _ _ _ _ _ _ hH' hB
      · obtain ⟨z8, e8⟩ := arePossibleSo_s hF hE hB z7.1 z7.2.1 z7.2.2.1 z7.2.2.2.1 z7.2.2.2.2 op1 nm1 lf1 rd1 is1 ia1
        rw [if_neg c1, e8, Option.bind_some]
        dsimp only
        rw [if_neg one_n0]
        dsimp only [Option.bind_some]
        by_cases c2 : ¬ (nI i - nI i / (4 : Int32) * (4 : Int32)) = (1 : Int32)
        · rw [if_pos c2]
          dsimp only [Option.bind_some]
          exact ih (i + 1) (by omega) (by omega) count' saved' n' q' f' l' nu' inF' fi' la' D' _ _ _ _ _ _ _ _ _ _ _ _ _ _ _ _ _ _ _ _ _ _ _ _ _ _ _ _ _ hH' hB
        · obtain ⟨z10, e10⟩ := areWaysSo_s hF hE hB z8.1 z8.2.1 z8.2.2.1 z8.2.2.2.1 z8.2.2.2.2.1 wn1 wi1 wf1 wl1 li1 wy1 ch1 nn0 nw0 nc0 z8.2.2.2.2.2.1 z8.2.2.2.2.2.2.1 z8.2.2.2.2.2.2.2.1 z8.2.2.2.2.2.2.2.2.1 z8.2.2.2.2.2.2.2.2.2.1 z8.2.2.2.2.2.2.2.2.2.2 bn0 bi0 bf0 bl0
          rw [if_neg c2, e10, Option.bind_some]
          dsimp only
          rw [if_pos one_n0]
          dsimp only [Option.bind_some]
          exact ih (i + 1) (by omega) (by omega) count' saved' n' q' f' l' nu' inF' fi' la' D' _ _ _ _ _ _ _ _ _ _ _ _ _ _ _ _ _ _ _ _ _ _ _ _ _ _ _ _ _ hH' hB
theorem law_s (hF : 1200 < F) (ha : ∀ j k, j < 6 → k < 6 → a j = a k → j = k) (hE : EV ef el ec) (hL : L < 2 ^ 31) {count : Int32} {saved : Nat → Option Nat} {n q f l : Nat → Nat → Int32} {nu inF fi la : Nat → Int32} {D : List (Nat × Nat)} (c0 : Int32) (f0 : Nat → Int32) (l0 : Nat → Int32) (s0 : Nat → Int64) (o0 : Nat → Int32) (mx0 : Int64) (mc0 : Int32) (mf0 : Nat → Int32) (ml0 : Nat → Int32) (wn : Nat → Int32) (wi : Nat → Int32) (wf : Nat → Int32) (wl : Nat → Int32) (li0 : Int32) (wy0 : Int32) (ch0 : Nat → Int32) (op0 : Int64) (nm0 : Int64) (lf0 : Nat → Int32) (rd0 : Int32) (is0 : Nat → Int64) (ia0 : Nat → Int64) (nn0 : Int64) (nw0 : Int32) (nc0 : Nat → Int32) (bn0 : Nat → Int32) (bi0 : Nat → Int32) (bf0 : Nat → Int32) (bl0 : Nat → Int32) (hH : HS a count saved n q f l) (h : FB nu inF fi la D) : ∃ r : Int32, fPaddockFieldsLaw_law F L (a 0) (a 1) (a 2) (a 3) (a 4) (a 5) xs count saved nu (n 0) inF (q 0) fi (f 0) la (l 0) (n 1) (q 1) (f 1) (l 1) (n 2) (q 2) (f 2) (l 2) (n 3) (q 3) (f 3) (l 3) (n 4) (q 4) (f 4) (l 4) (n 5) (q 5) (f 5) (l 5) mx0 mc0 mf0 ml0 c0 ec ef f0 el l0 s0 o0 wn wi wf wl li0 wy0 ch0 op0 nm0 lf0 rd0 is0 ia0 nn0 nw0 nc0 bn0 bi0 bf0 bl0 = some r := by
  obtain ⟨v, ev⟩ := scriptCell_s hL xs (i := 63) (by decide)
  obtain ⟨p, -, ep⟩ := low_e v (n := 1000000) (by decide) (by decide)
  have hsd : p % 1000000 < 1000000 := Nat.mod_lt _ (by decide)
  obtain ⟨saved', count', n', q', f', l', inF', nu', mx', mc', mf', ml', c', f1, l1, s1, o1, wn1, wi1, wf1, wl1, li1, wy1, ch1, e3, hH', hB⟩ := isMade_s (F := F) (by omega) ha hH hE h hsd mx0 mc0 mf0 ml0 c0 f0 l0 s0 o0 wn wi wf wl li0 wy0 ch0
  obtain ⟨r, er⟩ := lawLoop_s hF ha hE hL F 0 (by decide) (by omega) count' saved' n' q' f' l' nu' inF' fi la [] c' f1 l1 s1 o1 mx' mc' mf' ml' wn1 wi1 wf1 wl1 li1 wy1 ch1 op0 nm0 lf0 rd0 is0 ia0 nn0 nw0 nc0 bn0 bi0 bf0 bl0 hH' hB
  refine ⟨1, ?_⟩
  unfold fPaddockFieldsLaw_law
  rw [show fPaddockFieldsLaw_cell L (63 : Int32) xs = some v from ev, Option.bind_some, show fPaddockFieldsLaw_low v (1000000 : Int32) = some (nI (p % 1000000)) from ep, Option.bind_some, e3, Option.bind_some]
  dsimp only
  rw [if_pos one_n0, show (0 : Int32) = nI 0 from rfl, er, Option.bind_some]
end LW
