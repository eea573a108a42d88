/-! p47, THE MATHEMATICS: what 'does' does, a case of its switch at a time. Printed by wip/gen/does47.py and stm47.py. Own text. -/
theorem o_z_1 : o_z (1 : Int32) = some 1 := if_pos (Or.inr rfl)
section DS
variable {F : Nat} {a : Nat → Nat} {count : Int32} {saved : Nat → Option Nat} {n q f l : Nat → Nat → Int32} {nu inF fi la : Nat → Int32} {D : List (Nat × Nat)} {ef el : Nat → Int32} {ec : Nat → Int64} {k : Nat} {v w : Int32}
theorem RT_ex (hE : EV ef el ec) (nu inF : Nat → Int32) : ∃ R, RT nu inF R := by
  obtain ⟨-, R, -, -, -, -, hR, -⟩ := xrun_s (F := 1201) (by decide) hE nu inF 0 (fun _ => 0) (fun _ => 0) (fun _ => 0) (fun _ => 0) 0 0 (fun _ => 0) 0 (fun _ => 0) (fun _ => 0)
  exact ⟨R, hR⟩
set_option maxRecDepth 100000 in
theorem does_0 (hF : 1200 < F) (ha : ∀ j k, j < 6 → k < 6 → a j = a k → j = k) (hH : HS a count saved n q f l) (hE : EV ef el ec) (h : FB nu inF fi la D) {row col : Nat} (hrow : row < 6) (hcol : col < 7) (e1 : fPaddockFieldsLaw_low (v >>> ((4 : Int32) &&& 31)) (6 : Int32) = some (nI row)) (e2 : fPaddockFieldsLaw_low (v >>> ((7 : Int32) &&& 31)) (7 : Int32) = some (nI col)) (em : v &&& (15 : Int32) = nI 0) (mx0 : Int64) (mc0 : Int32) (mf0 ml0 : Nat → Int32) (c0 : Int32) (f0 l0 : Nat → Int32) (s0 : Nat → Int64) (o0 wn wi wf wl : Nat → Int32) (li0 wy0 : Int32) (ch0 : Nat → Int32) (op0 nm0 : Int64) (lf0 : Nat → Int32) (rd0 : Int32) (is0 ia0 : Nat → Int64) : ∃ (c' : Int32) (f1 l1 : Nat → Int32) (s1 : Nat → Int64) (o1 : Nat → Int32) (saved' : Nat → Option Nat) (count' : Int32) (n' q' f' l' : Nat → Nat → Int32) (inF' fi' la' nu' : Nat → Int32) (mx' : Int64) (mc' : Int32) (mf' ml' : Nat → Int32) (wn1 wi1 wf1 wl1 : Nat → Int32) (li1 wy1 : Int32) (ch1 : Nat → Int32) (op1 nm1 : Int64) (lf1 : Nat → Int32) (rd1 : Int32) (is1 ia1 : Nat → Int64) (D' : List (Nat × Nat)), fPaddockFieldsLaw_does F v w (a 0) (a 1) (a 2) (a 3) (a 4) (a 5) inF nu c0 ec ef f0 el l0 s0 o0 count saved (n 0) (q 0) fi (f 0) la (l 0) (n 1) (q 1) (f 1) (l 1) (n 2) (q 2) (f 2) (l 2) (n 3) (q 3) (f 3) (l 3) (n 4) (q 4) (f 4) (l 4) (n 5) (q 5) (f 5) (l 5) mx0 mc0 mf0 ml0 wn wi wf wl li0 wy0 ch0 op0 nm0 lf0 rd0 is0 ia0 = some (1, c', f1, l1, s1, o1, saved', count', (n' 0), (q' 0), (f' 0), (l' 0), (n' 1), (q' 1), (f' 1), (l' 1), (n' 2), (q' 2), (f' 2), (l' 2), (n' 3), (q' 3), (f' 3), (l' 3), (n' 4), (q' 4), (f' 4), (l' 4), (n' 5), (q' 5), (f' 5), (l' 5), inF', fi', la', nu', mx', mc', mf', ml', wn1, wi1, wf1, wl1, li1, wy1, ch1, op1, nm1, lf1, rd1, is1, ia1) ∧ HS a count' saved' n' q' f' l' ∧ FB nu' inF' fi' la' D' := by
  have hk : 7 * row + col < 42 := by omega
  have hc := cc_s hrow hcol
  obtain ⟨N, u, hu, eN, eu⟩ : ∃ (N : Int32) (u : Nat), u ≤ 20 ∧ (if ¬ (w &&& (8 : Int32)) = (0 : Int32) then some (21 : Int32) else some (7 : Int32)) = some N ∧ fPaddockFieldsLaw_low w N = some (nI u) := by
    by_cases c : (w &&& (8 : Int32)) = (0 : Int32)
    · obtain ⟨p, -, ep⟩ := low_e w (n := 7) (by decide) (by decide)
      exact ⟨7, p % 7, by omega, if_neg (not_not_intro c), ep⟩
    · obtain ⟨p, -, ep⟩ := low_e w (n := 21) (by decide) (by decide)
      exact ⟨21, p % 21, by omega, if_pos c, ep⟩
  rcases h.bit _ hk with g | g
  · obtain ⟨saved', count', n', q', f', l', ew, hH'⟩ := write_e (F := F) (by omega) ha hH h hk hu hc g
    refine ⟨c0, f0, l0, s0, o0, saved', count', n', q', f', l', inF, fi, la, upd nu (7 * row + col) (nI u), mx0, mc0, mf0, ml0, wn, wi, wf, wl, li0, wy0, ch0, op0, nm0, lf0, rd0, is0, ia0, D, ?_, hH', h.write hk hu g⟩
    unfold fPaddockFieldsLaw_does
    rw [e1, Option.bind_some, e2, Option.bind_some, em, if_neg (show ¬ nI 0 < (0 : Int32) by decide), if_neg (show ¬ (8 : Int32) < nI 0 by decide), if_pos (show nI 0 = (0 : Int32) by decide)]
    rw [numberAt_c hk hc, Option.bind_some, eN]
    dsimp only [Option.bind_some]
    rw [eu, Option.bind_some, isInField_c hk hc (Or.inl g), Option.bind_some, if_neg (not_not_intro g), ew, Option.bind_some]
    dsimp only
    rw [if_neg (not_not_intro rfl), numberAt_c hk hc, Option.bind_some, upd_at, if_neg (not_not_intro rfl), Option.bind_some]
  · refine ⟨c0, f0, l0, s0, o0, saved, count, n, q, f, l, inF, fi, la, nu, mx0, mc0, mf0, ml0, wn, wi, wf, wl, li0, wy0, ch0, op0, nm0, lf0, rd0, is0, ia0, D, ?_, hH, h⟩
    unfold fPaddockFieldsLaw_does
    rw [e1, Option.bind_some, e2, Option.bind_some, em, if_neg (show ¬ nI 0 < (0 : Int32) by decide), if_neg (show ¬ (8 : Int32) < nI 0 by decide), if_pos (show nI 0 = (0 : Int32) by decide)]
    rw [numberAt_c hk hc, Option.bind_some, eN]
    dsimp only [Option.bind_some]
    rw [eu, Option.bind_some, isInField_c hk hc (Or.inr g), Option.bind_some, if_pos (show ¬ inF (7 * row + col) = 0 by rw [g]; exact one_n0), Option.bind_some]
set_option maxRecDepth 100000 in
theorem does_1 (hF : 1200 < F) (ha : ∀ j k, j < 6 → k < 6 → a j = a k → j = k) (hH : HS a count saved n q f l) (hE : EV ef el ec) (h : FB nu inF fi la D) {row col : Nat} (hrow : row < 6) (hcol : col < 7) (e1 : fPaddockFieldsLaw_low (v >>> ((4 : Int32) &&& 31)) (6 : Int32) = some (nI row)) (e2 : fPaddockFieldsLaw_low (v >>> ((7 : Int32) &&& 31)) (7 : Int32) = some (nI col)) (em : v &&& (15 : Int32) = nI 1) (mx0 : Int64) (mc0 : Int32) (mf0 ml0 : Nat → Int32) (c0 : Int32) (f0 l0 : Nat → Int32) (s0 : Nat → Int64) (o0 wn wi wf wl : Nat → Int32) (li0 wy0 : Int32) (ch0 : Nat → Int32) (op0 nm0 : Int64) (lf0 : Nat → Int32) (rd0 : Int32) (is0 ia0 : Nat → Int64) : ∃ (c' : Int32) (f1 l1 : Nat → Int32) (s1 : Nat → Int64) (o1 : Nat → Int32) (saved' : Nat → Option Nat) (count' : Int32) (n' q' f' l' : Nat → Nat → Int32) (inF' fi' la' nu' : Nat → Int32) (mx' : Int64) (mc' : Int32) (mf' ml' : Nat → Int32) (wn1 wi1 wf1 wl1 : Nat → Int32) (li1 wy1 : Int32) (ch1 : Nat → Int32) (op1 nm1 : Int64) (lf1 : Nat → Int32) (rd1 : Int32) (is1 ia1 : Nat → Int64) (D' : List (Nat × Nat)), fPaddockFieldsLaw_does F v w (a 0) (a 1) (a 2) (a 3) (a 4) (a 5) inF nu c0 ec ef f0 el l0 s0 o0 count saved (n 0) (q 0) fi (f 0) la (l 0) (n 1) (q 1) (f 1) (l 1) (n 2) (q 2) (f 2) (l 2) (n 3) (q 3) (f 3) (l 3) (n 4) (q 4) (f 4) (l 4) (n 5) (q 5) (f 5) (l 5) mx0 mc0 mf0 ml0 wn wi wf wl li0 wy0 ch0 op0 nm0 lf0 rd0 is0 ia0 = some (1, c', f1, l1, s1, o1, saved', count', (n' 0), (q' 0), (f' 0), (l' 0), (n' 1), (q' 1), (f' 1), (l' 1), (n' 2), (q' 2), (f' 2), (l' 2), (n' 3), (q' 3), (f' 3), (l' 3), (n' 4), (q' 4), (f' 4), (l' 4), (n' 5), (q' 5), (f' 5), (l' 5), inF', fi', la', nu', mx', mc', mf', ml', wn1, wi1, wf1, wl1, li1, wy1, ch1, op1, nm1, lf1, rd1, is1, ia1) ∧ HS a count' saved' n' q' f' l' ∧ FB nu' inF' fi' la' D' := by
  have hk : 7 * row + col < 42 := by omega
  have hc := cc_s hrow hcol
  obtain ⟨N, u, hu, eN, eu⟩ : ∃ (N : Int32) (u : Nat), u ≤ 20 ∧ (if ¬ (w &&& (8 : Int32)) = (0 : Int32) then some (21 : Int32) else some (7 : Int32)) = some N ∧ fPaddockFieldsLaw_low w N = some (nI u) := by
    by_cases c : (w &&& (8 : Int32)) = (0 : Int32)
    · obtain ⟨p, -, ep⟩ := low_e w (n := 7) (by decide) (by decide)
      exact ⟨7, p % 7, by omega, if_neg (not_not_intro c), ep⟩
    · obtain ⟨p, -, ep⟩ := low_e w (n := 21) (by decide) (by decide)
      exact ⟨21, p % 21, by omega, if_pos c, ep⟩
  rcases h.bit _ hk with g | g
  · obtain ⟨saved', count', n', q', f', l', ew, hH'⟩ := write_e (F := F) (by omega) ha hH h hk hu hc g
    refine ⟨c0, f0, l0, s0, o0, saved', count', n', q', f', l', inF, fi, la, upd nu (7 * row + col) (nI u), mx0, mc0, mf0, ml0, wn, wi, wf, wl, li0, wy0, ch0, op0, nm0, lf0, rd0, is0, ia0, D, ?_, hH', h.write hk hu g⟩
    unfold fPaddockFieldsLaw_does
    rw [e1, Option.bind_some, e2, Option.bind_some, em, if_neg (show ¬ nI 1 < (0 : Int32) by decide), if_neg (show ¬ (8 : Int32) < nI 1 by decide), if_neg (show ¬ nI 1 = (0 : Int32) by decide), if_pos (show nI 1 = (1 : Int32) by decide)]
    rw [numberAt_c hk hc, Option.bind_some, eN]
    dsimp only [Option.bind_some]
    rw [eu, Option.bind_some, isInField_c hk hc (Or.inl g), Option.bind_some, if_neg (not_not_intro g), ew, Option.bind_some]
    dsimp only
    rw [if_neg (not_not_intro rfl), numberAt_c hk hc, Option.bind_some, upd_at, if_neg (not_not_intro rfl), Option.bind_some]
  · refine ⟨c0, f0, l0, s0, o0, saved, count, n, q, f, l, inF, fi, la, nu, mx0, mc0, mf0, ml0, wn, wi, wf, wl, li0, wy0, ch0, op0, nm0, lf0, rd0, is0, ia0, D, ?_, hH, h⟩
    unfold fPaddockFieldsLaw_does
    rw [e1, Option.bind_some, e2, Option.bind_some, em, if_neg (show ¬ nI 1 < (0 : Int32) by decide), if_neg (show ¬ (8 : Int32) < nI 1 by decide), if_neg (show ¬ nI 1 = (0 : Int32) by decide), if_pos (show nI 1 = (1 : Int32) by decide)]
    rw [numberAt_c hk hc, Option.bind_some, eN]
    dsimp only [Option.bind_some]
    rw [eu, Option.bind_some, isInField_c hk hc (Or.inr g), Option.bind_some, if_pos (show ¬ inF (7 * row + col) = 0 by rw [g]; exact one_n0), Option.bind_some]
set_option maxRecDepth 100000 in
theorem does_2 (hF : 1200 < F) (ha : ∀ j k, j < 6 → k < 6 → a j = a k → j = k) (hH : HS a count saved n q f l) (hE : EV ef el ec) (h : FB nu inF fi la D) {row col : Nat} (hrow : row < 6) (hcol : col < 7) (e1 : fPaddockFieldsLaw_low (v >>> ((4 : Int32) &&& 31)) (6 : Int32) = some (nI row)) (e2 : fPaddockFieldsLaw_low (v >>> ((7 : Int32) &&& 31)) (7 : Int32) = some (nI col)) (em : v &&& (15 : Int32) = nI 2) (mx0 : Int64) (mc0 : Int32) (mf0 ml0 : Nat → Int32) (c0 : Int32) (f0 l0 : Nat → Int32) (s0 : Nat → Int64) (o0 wn wi wf wl : Nat → Int32) (li0 wy0 : Int32) (ch0 : Nat → Int32) (op0 nm0 : Int64) (lf0 : Nat → Int32) (rd0 : Int32) (is0 ia0 : Nat → Int64) : ∃ (c' : Int32) (f1 l1 : Nat → Int32) (s1 : Nat → Int64) (o1 : Nat → Int32) (saved' : Nat → Option Nat) (count' : Int32) (n' q' f' l' : Nat → Nat → Int32) (inF' fi' la' nu' : Nat → Int32) (mx' : Int64) (mc' : Int32) (mf' ml' : Nat → Int32) (wn1 wi1 wf1 wl1 : Nat → Int32) (li1 wy1 : Int32) (ch1 : Nat → Int32) (op1 nm1 : Int64) (lf1 : Nat → Int32) (rd1 : Int32) (is1 ia1 : Nat → Int64) (D' : List (Nat × Nat)), fPaddockFieldsLaw_does F v w (a 0) (a 1) (a 2) (a 3) (a 4) (a 5) inF nu c0 ec ef f0 el l0 s0 o0 count saved (n 0) (q 0) fi (f 0) la (l 0) (n 1) (q 1) (f 1) (l 1) (n 2) (q 2) (f 2) (l 2) (n 3) (q 3) (f 3) (l 3) (n 4) (q 4) (f 4) (l 4) (n 5) (q 5) (f 5) (l 5) mx0 mc0 mf0 ml0 wn wi wf wl li0 wy0 ch0 op0 nm0 lf0 rd0 is0 ia0 = some (1, c', f1, l1, s1, o1, saved', count', (n' 0), (q' 0), (f' 0), (l' 0), (n' 1), (q' 1), (f' 1), (l' 1), (n' 2), (q' 2), (f' 2), (l' 2), (n' 3), (q' 3), (f' 3), (l' 3), (n' 4), (q' 4), (f' 4), (l' 4), (n' 5), (q' 5), (f' 5), (l' 5), inF', fi', la', nu', mx', mc', mf', ml', wn1, wi1, wf1, wl1, li1, wy1, ch1, op1, nm1, lf1, rd1, is1, ia1) ∧ HS a count' saved' n' q' f' l' ∧ FB nu' inF' fi' la' D' := by
  have hk : 7 * row + col < 42 := by omega
  have hc := cc_s hrow hcol
  obtain ⟨N, u, hu, eN, eu⟩ : ∃ (N : Int32) (u : Nat), u ≤ 20 ∧ (if ¬ (w &&& (8 : Int32)) = (0 : Int32) then some (21 : Int32) else some (7 : Int32)) = some N ∧ fPaddockFieldsLaw_low w N = some (nI u) := by
    by_cases c : (w &&& (8 : Int32)) = (0 : Int32)
    · obtain ⟨p, -, ep⟩ := low_e w (n := 7) (by decide) (by decide)
      exact ⟨7, p % 7, by omega, if_neg (not_not_intro c), ep⟩
    · obtain ⟨p, -, ep⟩ := low_e w (n := 21) (by decide) (by decide)
      exact ⟨21, p % 21, by omega, if_pos c, ep⟩
  rcases h.bit _ hk with g | g
  · obtain ⟨saved', count', n', q', f', l', ew, hH'⟩ := write_e (F := F) (by omega) ha hH h hk hu hc g
    refine ⟨c0, f0, l0, s0, o0, saved', count', n', q', f', l', inF, fi, la, upd nu (7 * row + col) (nI u), mx0, mc0, mf0, ml0, wn, wi, wf, wl, li0, wy0, ch0, op0, nm0, lf0, rd0, is0, ia0, D, ?_, hH', h.write hk hu g⟩
    unfold fPaddockFieldsLaw_does
    rw [e1, Option.bind_some, e2, Option.bind_some, em, if_neg (show ¬ nI 2 < (0 : Int32) by decide), if_neg (show ¬ (8 : Int32) < nI 2 by decide), if_neg (show ¬ nI 2 = (0 : Int32) by decide), if_neg (show ¬ nI 2 = (1 : Int32) by decide), if_pos (show nI 2 = (2 : Int32) by decide)]
    rw [numberAt_c hk hc, Option.bind_some, eN]
    dsimp only [Option.bind_some]
    rw [eu, Option.bind_some, isInField_c hk hc (Or.inl g), Option.bind_some, if_neg (not_not_intro g), ew, Option.bind_some]
    dsimp only
    rw [if_neg (not_not_intro rfl), numberAt_c hk hc, Option.bind_some, upd_at, if_neg (not_not_intro rfl), Option.bind_some]
  · refine ⟨c0, f0, l0, s0, o0, saved, count, n, q, f, l, inF, fi, la, nu, mx0, mc0, mf0, ml0, wn, wi, wf, wl, li0, wy0, ch0, op0, nm0, lf0, rd0, is0, ia0, D, ?_, hH, h⟩
    unfold fPaddockFieldsLaw_does
    rw [e1, Option.bind_some, e2, Option.bind_some, em, if_neg (show ¬ nI 2 < (0 : Int32) by decide), if_neg (show ¬ (8 : Int32) < nI 2 by decide), if_neg (show ¬ nI 2 = (0 : Int32) by decide), if_neg (show ¬ nI 2 = (1 : Int32) by decide), if_pos (show nI 2 = (2 : Int32) by decide)]
    rw [numberAt_c hk hc, Option.bind_some, eN]
    dsimp only [Option.bind_some]
    rw [eu, Option.bind_some, isInField_c hk hc (Or.inr g), Option.bind_some, if_pos (show ¬ inF (7 * row + col) = 0 by rw [g]; exact one_n0), Option.bind_some]
set_option maxRecDepth 100000 in
theorem does_3 (hF : 1200 < F) (ha : ∀ j k, j < 6 → k < 6 → a j = a k → j = k) (hH : HS a count saved n q f l) (hE : EV ef el ec) (h : FB nu inF fi la D) {row col : Nat} (hrow : row < 6) (hcol : col < 7) (e1 : fPaddockFieldsLaw_low (v >>> ((4 : Int32) &&& 31)) (6 : Int32) = some (nI row)) (e2 : fPaddockFieldsLaw_low (v >>> ((7 : Int32) &&& 31)) (7 : Int32) = some (nI col)) (em : v &&& (15 : Int32) = nI 3) (mx0 : Int64) (mc0 : Int32) (mf0 ml0 : Nat → Int32) (c0 : Int32) (f0 l0 : Nat → Int32) (s0 : Nat → Int64) (o0 wn wi wf wl : Nat → Int32) (li0 wy0 : Int32) (ch0 : Nat → Int32) (op0 nm0 : Int64) (lf0 : Nat → Int32) (rd0 : Int32) (is0 ia0 : Nat → Int64) : ∃ (c' : Int32) (f1 l1 : Nat → Int32) (s1 : Nat → Int64) (o1 : Nat → Int32) (saved' : Nat → Option Nat) (count' : Int32) (n' q' f' l' : Nat → Nat → Int32) (inF' fi' la' nu' : Nat → Int32) (mx' : Int64) (mc' : Int32) (mf' ml' : Nat → Int32) (wn1 wi1 wf1 wl1 : Nat → Int32) (li1 wy1 : Int32) (ch1 : Nat → Int32) (op1 nm1 : Int64) (lf1 : Nat → Int32) (rd1 : Int32) (is1 ia1 : Nat → Int64) (D' : List (Nat × Nat)), fPaddockFieldsLaw_does F v w (a 0) (a 1) (a 2) (a 3) (a 4) (a 5) inF nu c0 ec ef f0 el l0 s0 o0 count saved (n 0) (q 0) fi (f 0) la (l 0) (n 1) (q 1) (f 1) (l 1) (n 2) (q 2) (f 2) (l 2) (n 3) (q 3) (f 3) (l 3) (n 4) (q 4) (f 4) (l 4) (n 5) (q 5) (f 5) (l 5) mx0 mc0 mf0 ml0 wn wi wf wl li0 wy0 ch0 op0 nm0 lf0 rd0 is0 ia0 = some (1, c', f1, l1, s1, o1, saved', count', (n' 0), (q' 0), (f' 0), (l' 0), (n' 1), (q' 1), (f' 1), (l' 1), (n' 2), (q' 2), (f' 2), (l' 2), (n' 3), (q' 3), (f' 3), (l' 3), (n' 4), (q' 4), (f' 4), (l' 4), (n' 5), (q' 5), (f' 5), (l' 5), inF', fi', la', nu', mx', mc', mf', ml', wn1, wi1, wf1, wl1, li1, wy1, ch1, op1, nm1, lf1, rd1, is1, ia1) ∧ HS a count' saved' n' q' f' l' ∧ FB nu' inF' fi' la' D' := by
  obtain ⟨p, -, ep⟩ := low_e w (n := 9999) (by decide) (by decide)
  have hsd : p % 9999 < 1000000 := by omega
  obtain ⟨saved', count', n', q', f', l', inF', nu', mx', mc', mf', ml', c', f1, l1, s1, o1, wn1, wi1, wf1, wl1, li1, wy1, ch1, e3, hH', hB⟩ := isMade_s (F := F) (by omega) ha hH hE h hsd mx0 mc0 mf0 ml0 c0 f0 l0 s0 o0 wn wi wf wl li0 wy0 ch0
  refine ⟨c', f1, l1, s1, o1, saved', count', n', q', f', l', inF', fi, la, nu', mx', mc', mf', ml', wn1, wi1, wf1, wl1, li1, wy1, ch1, op0, nm0, lf0, rd0, is0, ia0, [], ?_, hH', hB⟩
  unfold fPaddockFieldsLaw_does
  rw [e1, Option.bind_some, e2, Option.bind_some, em, if_neg (show ¬ nI 3 < (0 : Int32) by decide), if_neg (show ¬ (8 : Int32) < nI 3 by decide), if_neg (show ¬ nI 3 = (0 : Int32) by decide), if_neg (show ¬ nI 3 = (1 : Int32) by decide), if_neg (show ¬ nI 3 = (2 : Int32) by decide), if_pos (show nI 3 = (3 : Int32) by decide)]
  rw [show fPaddockFieldsLaw_low w (9999 : Int32) = some (nI (p % 9999)) from ep, Option.bind_some, e3, Option.bind_some]
  dsimp only
  rw [o_z_1, Option.bind_some]
set_option maxRecDepth 100000 in
theorem does_4 (hF : 1200 < F) (ha : ∀ j k, j < 6 → k < 6 → a j = a k → j = k) (hH : HS a count saved n q f l) (hE : EV ef el ec) (h : FB nu inF fi la D) {row col : Nat} (hrow : row < 6) (hcol : col < 7) (e1 : fPaddockFieldsLaw_low (v >>> ((4 : Int32) &&& 31)) (6 : Int32) = some (nI row)) (e2 : fPaddockFieldsLaw_low (v >>> ((7 : Int32) &&& 31)) (7 : Int32) = some (nI col)) (em : v &&& (15 : Int32) = nI 4) (mx0 : Int64) (mc0 : Int32) (mf0 ml0 : Nat → Int32) (c0 : Int32) (f0 l0 : Nat → Int32) (s0 : Nat → Int64) (o0 wn wi wf wl : Nat → Int32) (li0 wy0 : Int32) (ch0 : Nat → Int32) (op0 nm0 : Int64) (lf0 : Nat → Int32) (rd0 : Int32) (is0 ia0 : Nat → Int64) : ∃ (c' : Int32) (f1 l1 : Nat → Int32) (s1 : Nat → Int64) (o1 : Nat → Int32) (saved' : Nat → Option Nat) (count' : Int32) (n' q' f' l' : Nat → Nat → Int32) (inF' fi' la' nu' : Nat → Int32) (mx' : Int64) (mc' : Int32) (mf' ml' : Nat → Int32) (wn1 wi1 wf1 wl1 : Nat → Int32) (li1 wy1 : Int32) (ch1 : Nat → Int32) (op1 nm1 : Int64) (lf1 : Nat → Int32) (rd1 : Int32) (is1 ia1 : Nat → Int64) (D' : List (Nat × Nat)), fPaddockFieldsLaw_does F v w (a 0) (a 1) (a 2) (a 3) (a 4) (a 5) inF nu c0 ec ef f0 el l0 s0 o0 count saved (n 0) (q 0) fi (f 0) la (l 0) (n 1) (q 1) (f 1) (l 1) (n 2) (q 2) (f 2) (l 2) (n 3) (q 3) (f 3) (l 3) (n 4) (q 4) (f 4) (l 4) (n 5) (q 5) (f 5) (l 5) mx0 mc0 mf0 ml0 wn wi wf wl li0 wy0 ch0 op0 nm0 lf0 rd0 is0 ia0 = some (1, c', f1, l1, s1, o1, saved', count', (n' 0), (q' 0), (f' 0), (l' 0), (n' 1), (q' 1), (f' 1), (l' 1), (n' 2), (q' 2), (f' 2), (l' 2), (n' 3), (q' 3), (f' 3), (l' 3), (n' 4), (q' 4), (f' 4), (l' 4), (n' 5), (q' 5), (f' 5), (l' 5), inF', fi', la', nu', mx', mc', mf', ml', wn1, wi1, wf1, wl1, li1, wy1, ch1, op1, nm1, lf1, rd1, is1, ia1) ∧ HS a count' saved' n' q' f' l' ∧ FB nu' inF' fi' la' D' := by
  obtain ⟨p, -, ep⟩ := low_e w (n := 9999) (by decide) (by decide)
  have hsd : p % 9999 < 1000000 := by omega
  obtain ⟨saved', count', n', q', f', l', inF', nu', mx', mc', mf', ml', c', f1, l1, s1, o1, wn1, wi1, wf1, wl1, li1, wy1, ch1, e3, hH', hB⟩ := isMade_s (F := F) (by omega) ha hH hE h hsd mx0 mc0 mf0 ml0 c0 f0 l0 s0 o0 wn wi wf wl li0 wy0 ch0
  refine ⟨c', f1, l1, s1, o1, saved', count', n', q', f', l', inF', fi, la, nu', mx', mc', mf', ml', wn1, wi1, wf1, wl1, li1, wy1, ch1, op0, nm0, lf0, rd0, is0, ia0, [], ?_, hH', hB⟩
  unfold fPaddockFieldsLaw_does
  rw [e1, Option.bind_some, e2, Option.bind_some, em, if_neg (show ¬ nI 4 < (0 : Int32) by decide), if_neg (show ¬ (8 : Int32) < nI 4 by decide), if_neg (show ¬ nI 4 = (0 : Int32) by decide), if_neg (show ¬ nI 4 = (1 : Int32) by decide), if_neg (show ¬ nI 4 = (2 : Int32) by decide), if_neg (show ¬ nI 4 = (3 : Int32) by decide), if_pos (show nI 4 = (4 : Int32) by decide)]
  rw [show fPaddockFieldsLaw_low w (9999 : Int32) = some (nI (p % 9999)) from ep, Option.bind_some, e3, Option.bind_some]
  dsimp only
  rw [o_z_1, Option.bind_some]
set_option maxRecDepth 100000 in
theorem does_5 (hF : 1200 < F) (ha : ∀ j k, j < 6 → k < 6 → a j = a k → j = k) (hH : HS a count saved n q f l) (hE : EV ef el ec) (h : FB nu inF fi la D) {row col : Nat} (hrow : row < 6) (hcol : col < 7) (e1 : fPaddockFieldsLaw_low (v >>> ((4 : Int32) &&& 31)) (6 : Int32) = some (nI row)) (e2 : fPaddockFieldsLaw_low (v >>> ((7 : Int32) &&& 31)) (7 : Int32) = some (nI col)) (em : v &&& (15 : Int32) = nI 5) (mx0 : Int64) (mc0 : Int32) (mf0 ml0 : Nat → Int32) (c0 : Int32) (f0 l0 : Nat → Int32) (s0 : Nat → Int64) (o0 wn wi wf wl : Nat → Int32) (li0 wy0 : Int32) (ch0 : Nat → Int32) (op0 nm0 : Int64) (lf0 : Nat → Int32) (rd0 : Int32) (is0 ia0 : Nat → Int64) : ∃ (c' : Int32) (f1 l1 : Nat → Int32) (s1 : Nat → Int64) (o1 : Nat → Int32) (saved' : Nat → Option Nat) (count' : Int32) (n' q' f' l' : Nat → Nat → Int32) (inF' fi' la' nu' : Nat → Int32) (mx' : Int64) (mc' : Int32) (mf' ml' : Nat → Int32) (wn1 wi1 wf1 wl1 : Nat → Int32) (li1 wy1 : Int32) (ch1 : Nat → Int32) (op1 nm1 : Int64) (lf1 : Nat → Int32) (rd1 : Int32) (is1 ia1 : Nat → Int64) (D' : List (Nat × Nat)), fPaddockFieldsLaw_does F v w (a 0) (a 1) (a 2) (a 3) (a 4) (a 5) inF nu c0 ec ef f0 el l0 s0 o0 count saved (n 0) (q 0) fi (f 0) la (l 0) (n 1) (q 1) (f 1) (l 1) (n 2) (q 2) (f 2) (l 2) (n 3) (q 3) (f 3) (l 3) (n 4) (q 4) (f 4) (l 4) (n 5) (q 5) (f 5) (l 5) mx0 mc0 mf0 ml0 wn wi wf wl li0 wy0 ch0 op0 nm0 lf0 rd0 is0 ia0 = some (1, c', f1, l1, s1, o1, saved', count', (n' 0), (q' 0), (f' 0), (l' 0), (n' 1), (q' 1), (f' 1), (l' 1), (n' 2), (q' 2), (f' 2), (l' 2), (n' 3), (q' 3), (f' 3), (l' 3), (n' 4), (q' 4), (f' 4), (l' 4), (n' 5), (q' 5), (f' 5), (l' 5), inF', fi', la', nu', mx', mc', mf', ml', wn1, wi1, wf1, wl1, li1, wy1, ch1, op1, nm1, lf1, rd1, is1, ia1) ∧ HS a count' saved' n' q' f' l' ∧ FB nu' inF' fi' la' D' := by
  obtain ⟨saved', count', n', q', f', l', inF', e3, hH', hB⟩ := eraseAll_e (F := F) (by omega) ha hH h
  have h1 := hB.size
  rw [sm_nil] at h1
  refine ⟨c0, f0, l0, s0, o0, saved', count', n', q', f', l', inF', fi, la, nu, mx0, mc0, mf0, ml0, wn, wi, wf, wl, li0, wy0, ch0, op0, nm0, lf0, rd0, is0, ia0, [], ?_, hH', hB⟩
  unfold fPaddockFieldsLaw_does
  rw [e1, Option.bind_some, e2, Option.bind_some, em, if_neg (show ¬ nI 5 < (0 : Int32) by decide), if_neg (show ¬ (8 : Int32) < nI 5 by decide), if_neg (show ¬ nI 5 = (0 : Int32) by decide), if_neg (show ¬ nI 5 = (1 : Int32) by decide), if_neg (show ¬ nI 5 = (2 : Int32) by decide), if_neg (show ¬ nI 5 = (3 : Int32) by decide), if_neg (show ¬ nI 5 = (4 : Int32) by decide), if_pos (show nI 5 = (5 : Int32) by decide)]
  rw [fields_e (by omega) h, Option.bind_some, e3, Option.bind_some]
  dsimp only
  rw [if_neg (not_not_intro rfl), fields_e (by omega) hB, Option.bind_some, if_neg (not_not_intro (show nI ([] : List (Nat × Nat)).length = (0 : Int32) from nI_0)), openCells_e (by omega), Option.bind_some, if_neg (not_not_intro (show nI (42 - cif inF') = (42 : Int32) by rw [show cif inF' = 0 from h1]; rfl))]
set_option maxRecDepth 100000 in
theorem does_6 (hF : 1200 < F) (ha : ∀ j k, j < 6 → k < 6 → a j = a k → j = k) (hH : HS a count saved n q f l) (hE : EV ef el ec) (h : FB nu inF fi la D) {row col : Nat} (hrow : row < 6) (hcol : col < 7) (e1 : fPaddockFieldsLaw_low (v >>> ((4 : Int32) &&& 31)) (6 : Int32) = some (nI row)) (e2 : fPaddockFieldsLaw_low (v >>> ((7 : Int32) &&& 31)) (7 : Int32) = some (nI col)) (em : v &&& (15 : Int32) = nI 6) (mx0 : Int64) (mc0 : Int32) (mf0 ml0 : Nat → Int32) (c0 : Int32) (f0 l0 : Nat → Int32) (s0 : Nat → Int64) (o0 wn wi wf wl : Nat → Int32) (li0 wy0 : Int32) (ch0 : Nat → Int32) (op0 nm0 : Int64) (lf0 : Nat → Int32) (rd0 : Int32) (is0 ia0 : Nat → Int64) : ∃ (c' : Int32) (f1 l1 : Nat → Int32) (s1 : Nat → Int64) (o1 : Nat → Int32) (saved' : Nat → Option Nat) (count' : Int32) (n' q' f' l' : Nat → Nat → Int32) (inF' fi' la' nu' : Nat → Int32) (mx' : Int64) (mc' : Int32) (mf' ml' : Nat → Int32) (wn1 wi1 wf1 wl1 : Nat → Int32) (li1 wy1 : Int32) (ch1 : Nat → Int32) (op1 nm1 : Int64) (lf1 : Nat → Int32) (rd1 : Int32) (is1 ia1 : Nat → Int64) (D' : List (Nat × Nat)), fPaddockFieldsLaw_does F v w (a 0) (a 1) (a 2) (a 3) (a 4) (a 5) inF nu c0 ec ef f0 el l0 s0 o0 count saved (n 0) (q 0) fi (f 0) la (l 0) (n 1) (q 1) (f 1) (l 1) (n 2) (q 2) (f 2) (l 2) (n 3) (q 3) (f 3) (l 3) (n 4) (q 4) (f 4) (l 4) (n 5) (q 5) (f 5) (l 5) mx0 mc0 mf0 ml0 wn wi wf wl li0 wy0 ch0 op0 nm0 lf0 rd0 is0 ia0 = some (1, c', f1, l1, s1, o1, saved', count', (n' 0), (q' 0), (f' 0), (l' 0), (n' 1), (q' 1), (f' 1), (l' 1), (n' 2), (q' 2), (f' 2), (l' 2), (n' 3), (q' 3), (f' 3), (l' 3), (n' 4), (q' 4), (f' 4), (l' 4), (n' 5), (q' 5), (f' 5), (l' 5), inF', fi', la', nu', mx', mc', mf', ml', wn1, wi1, wf1, wl1, li1, wy1, ch1, op1, nm1, lf1, rd1, is1, ia1) ∧ HS a count' saved' n' q' f' l' ∧ FB nu' inF' fi' la' D' := by
  obtain ⟨R, hR⟩ := RT_ex hE nu inF
  obtain ⟨z, e3⟩ := isContradiction_e hF hE hR c0 f0 l0 s0 o0 op0 nm0 lf0 rd0 is0 ia0
  cases hcon : con nu inF (rit nu inF R) with
  | true =>
    rw [hcon, bI_t] at e3
    refine ⟨z.1, z.2.1, z.2.2.1, z.2.2.2.1, z.2.2.2.2.1, saved, count, n, q, f, l, inF, fi, la, nu, mx0, mc0, mf0, ml0, wn, wi, wf, wl, li0, wy0, ch0, z.2.2.2.2.2.1, z.2.2.2.2.2.2.1, z.2.2.2.2.2.2.2.1, z.2.2.2.2.2.2.2.2.1, z.2.2.2.2.2.2.2.2.2.1, z.2.2.2.2.2.2.2.2.2.2, D, ?_, hH, h⟩
    unfold fPaddockFieldsLaw_does
    rw [e1, Option.bind_some, e2, Option.bind_some, em, if_neg (show ¬ nI 6 < (0 : Int32) by decide), if_neg (show ¬ (8 : Int32) < nI 6 by decide), if_neg (show ¬ nI 6 = (0 : Int32) by decide), if_neg (show ¬ nI 6 = (1 : Int32) by decide), if_neg (show ¬ nI 6 = (2 : Int32) by decide), if_neg (show ¬ nI 6 = (3 : Int32) by decide), if_neg (show ¬ nI 6 = (4 : Int32) by decide), if_neg (show ¬ nI 6 = (5 : Int32) by decide), if_pos (show nI 6 = (6 : Int32) by decide)]
    rw [e3, Option.bind_some]
    dsimp only
    rw [if_pos one_n0, Option.bind_some]
  | false =>
    rw [hcon, bI_f] at e3
    obtain ⟨saved', count', n', q', f', l', inF', fi', la', c', f1, l1, s1, o1, op1, nm1, lf1, rd1, is1, ia1, wn1, wi1, wf1, wl1, li1, wy1, ch1, D', e4, hH', hB⟩ := isSettled_s hF ha hH hE h hR hcon z.1 z.2.1 z.2.2.1 z.2.2.2.1 z.2.2.2.2.1 z.2.2.2.2.2.1 z.2.2.2.2.2.2.1 z.2.2.2.2.2.2.2.1 z.2.2.2.2.2.2.2.2.1 z.2.2.2.2.2.2.2.2.2.1 z.2.2.2.2.2.2.2.2.2.2 wn wi wf wl li0 wy0 ch0
    refine ⟨c', f1, l1, s1, o1, saved', count', n', q', f', l', inF', fi', la', nu, mx0, mc0, mf0, ml0, wn1, wi1, wf1, wl1, li1, wy1, ch1, op1, nm1, lf1, rd1, is1, ia1, D', ?_, hH', hB⟩
    unfold fPaddockFieldsLaw_does
    rw [e1, Option.bind_some, e2, Option.bind_some, em, if_neg (show ¬ nI 6 < (0 : Int32) by decide), if_neg (show ¬ (8 : Int32) < nI 6 by decide), if_neg (show ¬ nI 6 = (0 : Int32) by decide), if_neg (show ¬ nI 6 = (1 : Int32) by decide), if_neg (show ¬ nI 6 = (2 : Int32) by decide), if_neg (show ¬ nI 6 = (3 : Int32) by decide), if_neg (show ¬ nI 6 = (4 : Int32) by decide), if_neg (show ¬ nI 6 = (5 : Int32) by decide), if_pos (show nI 6 = (6 : Int32) by decide)]
    rw [e3, Option.bind_some]
    dsimp only
    rw [if_neg (not_not_intro rfl), e4, Option.bind_some]
    dsimp only
    rw [if_neg one_n0, Option.bind_some]
set_option maxRecDepth 100000 in
theorem does_7 (hF : 1200 < F) (ha : ∀ j k, j < 6 → k < 6 → a j = a k → j = k) (hH : HS a count saved n q f l) (hE : EV ef el ec) (h : FB nu inF fi la D) {row col : Nat} (hrow : row < 6) (hcol : col < 7) (e1 : fPaddockFieldsLaw_low (v >>> ((4 : Int32) &&& 31)) (6 : Int32) = some (nI row)) (e2 : fPaddockFieldsLaw_low (v >>> ((7 : Int32) &&& 31)) (7 : Int32) = some (nI col)) (em : v &&& (15 : Int32) = nI 7) (mx0 : Int64) (mc0 : Int32) (mf0 ml0 : Nat → Int32) (c0 : Int32) (f0 l0 : Nat → Int32) (s0 : Nat → Int64) (o0 wn wi wf wl : Nat → Int32) (li0 wy0 : Int32) (ch0 : Nat → Int32) (op0 nm0 : Int64) (lf0 : Nat → Int32) (rd0 : Int32) (is0 ia0 : Nat → Int64) : ∃ (c' : Int32) (f1 l1 : Nat → Int32) (s1 : Nat → Int64) (o1 : Nat → Int32) (saved' : Nat → Option Nat) (count' : Int32) (n' q' f' l' : Nat → Nat → Int32) (inF' fi' la' nu' : Nat → Int32) (mx' : Int64) (mc' : Int32) (mf' ml' : Nat → Int32) (wn1 wi1 wf1 wl1 : Nat → Int32) (li1 wy1 : Int32) (ch1 : Nat → Int32) (op1 nm1 : Int64) (lf1 : Nat → Int32) (rd1 : Int32) (is1 ia1 : Nat → Int64) (D' : List (Nat × Nat)), fPaddockFieldsLaw_does F v w (a 0) (a 1) (a 2) (a 3) (a 4) (a 5) inF nu c0 ec ef f0 el l0 s0 o0 count saved (n 0) (q 0) fi (f 0) la (l 0) (n 1) (q 1) (f 1) (l 1) (n 2) (q 2) (f 2) (l 2) (n 3) (q 3) (f 3) (l 3) (n 4) (q 4) (f 4) (l 4) (n 5) (q 5) (f 5) (l 5) mx0 mc0 mf0 ml0 wn wi wf wl li0 wy0 ch0 op0 nm0 lf0 rd0 is0 ia0 = some (1, c', f1, l1, s1, o1, saved', count', (n' 0), (q' 0), (f' 0), (l' 0), (n' 1), (q' 1), (f' 1), (l' 1), (n' 2), (q' 2), (f' 2), (l' 2), (n' 3), (q' 3), (f' 3), (l' 3), (n' 4), (q' 4), (f' 4), (l' 4), (n' 5), (q' 5), (f' 5), (l' 5), inF', fi', la', nu', mx', mc', mf', ml', wn1, wi1, wf1, wl1, li1, wy1, ch1, op1, nm1, lf1, rd1, is1, ia1) ∧ HS a count' saved' n' q' f' l' ∧ FB nu' inF' fi' la' D' := by
  obtain ⟨z, e3⟩ := waysByCells_e (F := F) (by omega) hE h c0 f0 l0 s0 o0 wn wi wf wl li0 wy0 ch0
  by_cases hw : WW nu inF (Tk inF) = 0
  · refine ⟨z.1, z.2.1, z.2.2.1, z.2.2.2.1, z.2.2.2.2.1, saved, count, n, q, f, l, inF, fi, la, nu, mx0, mc0, mf0, ml0, z.2.2.2.2.2.1, z.2.2.2.2.2.2.1, z.2.2.2.2.2.2.2.1, z.2.2.2.2.2.2.2.2.1, z.2.2.2.2.2.2.2.2.2.1, z.2.2.2.2.2.2.2.2.2.2.1, z.2.2.2.2.2.2.2.2.2.2.2, op0, nm0, lf0, rd0, is0, ia0, D, ?_, hH, h⟩
    unfold fPaddockFieldsLaw_does
    rw [e1, Option.bind_some, e2, Option.bind_some, em, if_neg (show ¬ nI 7 < (0 : Int32) by decide), if_neg (show ¬ (8 : Int32) < nI 7 by decide), if_neg (show ¬ nI 7 = (0 : Int32) by decide), if_neg (show ¬ nI 7 = (1 : Int32) by decide), if_neg (show ¬ nI 7 = (2 : Int32) by decide), if_neg (show ¬ nI 7 = (3 : Int32) by decide), if_neg (show ¬ nI 7 = (4 : Int32) by decide), if_neg (show ¬ nI 7 = (5 : Int32) by decide), if_neg (show ¬ nI 7 = (6 : Int32) by decide), if_pos (show nI 7 = (7 : Int32) by decide)]
    rw [e3, Option.bind_some]
    dsimp only
    rw [if_pos (show nI (min 50 (WW nu inF (Tk inF))) = (0 : Int32) by rw [hw]; rfl), Option.bind_some]
  · obtain ⟨saved', count', n', q', f', l', nu', inF', fi', la', c', f1, l1, s1, o1, wn1, wi1, wf1, wl1, li1, wy1, ch1, D', e4, hH', hB⟩ := isFinished_s hF ha hH hE h hw z.1 z.2.1 z.2.2.1 z.2.2.2.1 z.2.2.2.2.1 z.2.2.2.2.2.1 z.2.2.2.2.2.2.1 z.2.2.2.2.2.2.2.1 z.2.2.2.2.2.2.2.2.1 z.2.2.2.2.2.2.2.2.2.1 z.2.2.2.2.2.2.2.2.2.2.1 z.2.2.2.2.2.2.2.2.2.2.2
    refine ⟨c', f1, l1, s1, o1, saved', count', n', q', f', l', inF', fi', la', nu', mx0, mc0, mf0, ml0, wn1, wi1, wf1, wl1, li1, wy1, ch1, op0, nm0, lf0, rd0, is0, ia0, D', ?_, hH', hB⟩
    unfold fPaddockFieldsLaw_does
    rw [e1, Option.bind_some, e2, Option.bind_some, em, if_neg (show ¬ nI 7 < (0 : Int32) by decide), if_neg (show ¬ (8 : Int32) < nI 7 by decide), if_neg (show ¬ nI 7 = (0 : Int32) by decide), if_neg (show ¬ nI 7 = (1 : Int32) by decide), if_neg (show ¬ nI 7 = (2 : Int32) by decide), if_neg (show ¬ nI 7 = (3 : Int32) by decide), if_neg (show ¬ nI 7 = (4 : Int32) by decide), if_neg (show ¬ nI 7 = (5 : Int32) by decide), if_neg (show ¬ nI 7 = (6 : Int32) by decide), if_pos (show nI 7 = (7 : Int32) by decide)]
    rw [e3, Option.bind_some]
    dsimp only
    rw [if_neg (nI_ne0 (show 0 < min 50 (WW nu inF (Tk inF)) by omega) (by omega)), e4, Option.bind_some]
    dsimp only
    rw [if_neg one_n0, Option.bind_some]
set_option maxRecDepth 100000 in
theorem does_8 (hF : 1200 < F) (ha : ∀ j k, j < 6 → k < 6 → a j = a k → j = k) (hH : HS a count saved n q f l) (hE : EV ef el ec) (h : FB nu inF fi la D) {row col : Nat} (hrow : row < 6) (hcol : col < 7) (e1 : fPaddockFieldsLaw_low (v >>> ((4 : Int32) &&& 31)) (6 : Int32) = some (nI row)) (e2 : fPaddockFieldsLaw_low (v >>> ((7 : Int32) &&& 31)) (7 : Int32) = some (nI col)) (em : v &&& (15 : Int32) = nI 8) (mx0 : Int64) (mc0 : Int32) (mf0 ml0 : Nat → Int32) (c0 : Int32) (f0 l0 : Nat → Int32) (s0 : Nat → Int64) (o0 wn wi wf wl : Nat → Int32) (li0 wy0 : Int32) (ch0 : Nat → Int32) (op0 nm0 : Int64) (lf0 : Nat → Int32) (rd0 : Int32) (is0 ia0 : Nat → Int64) : ∃ (c' : Int32) (f1 l1 : Nat → Int32) (s1 : Nat → Int64) (o1 : Nat → Int32) (saved' : Nat → Option Nat) (count' : Int32) (n' q' f' l' : Nat → Nat → Int32) (inF' fi' la' nu' : Nat → Int32) (mx' : Int64) (mc' : Int32) (mf' ml' : Nat → Int32) (wn1 wi1 wf1 wl1 : Nat → Int32) (li1 wy1 : Int32) (ch1 : Nat → Int32) (op1 nm1 : Int64) (lf1 : Nat → Int32) (rd1 : Int32) (is1 ia1 : Nat → Int64) (D' : List (Nat × Nat)), fPaddockFieldsLaw_does F v w (a 0) (a 1) (a 2) (a 3) (a 4) (a 5) inF nu c0 ec ef f0 el l0 s0 o0 count saved (n 0) (q 0) fi (f 0) la (l 0) (n 1) (q 1) (f 1) (l 1) (n 2) (q 2) (f 2) (l 2) (n 3) (q 3) (f 3) (l 3) (n 4) (q 4) (f 4) (l 4) (n 5) (q 5) (f 5) (l 5) mx0 mc0 mf0 ml0 wn wi wf wl li0 wy0 ch0 op0 nm0 lf0 rd0 is0 ia0 = some (1, c', f1, l1, s1, o1, saved', count', (n' 0), (q' 0), (f' 0), (l' 0), (n' 1), (q' 1), (f' 1), (l' 1), (n' 2), (q' 2), (f' 2), (l' 2), (n' 3), (q' 3), (f' 3), (l' 3), (n' 4), (q' 4), (f' 4), (l' 4), (n' 5), (q' 5), (f' 5), (l' 5), inF', fi', la', nu', mx', mc', mf', ml', wn1, wi1, wf1, wl1, li1, wy1, ch1, op1, nm1, lf1, rd1, is1, ia1) ∧ HS a count' saved' n' q' f' l' ∧ FB nu' inF' fi' la' D' := by
  have hk : 7 * row + col < 42 := by omega
  have hc := cc_s hrow hcol
  rcases h.bit _ hk with g | g
  · refine ⟨c0, f0, l0, s0, o0, saved, count, n, q, f, l, inF, fi, la, nu, mx0, mc0, mf0, ml0, wn, wi, wf, wl, li0, wy0, ch0, op0, nm0, lf0, rd0, is0, ia0, D, ?_, hH, h⟩
    unfold fPaddockFieldsLaw_does
    rw [e1, Option.bind_some, e2, Option.bind_some, em, if_neg (show ¬ nI 8 < (0 : Int32) by decide), if_neg (show ¬ (8 : Int32) < nI 8 by decide), if_neg (show ¬ nI 8 = (0 : Int32) by decide), if_neg (show ¬ nI 8 = (1 : Int32) by decide), if_neg (show ¬ nI 8 = (2 : Int32) by decide), if_neg (show ¬ nI 8 = (3 : Int32) by decide), if_neg (show ¬ nI 8 = (4 : Int32) by decide), if_neg (show ¬ nI 8 = (5 : Int32) by decide), if_neg (show ¬ nI 8 = (6 : Int32) by decide), if_neg (show ¬ nI 8 = (7 : Int32) by decide), if_pos (show nI 8 = (8 : Int32) by decide)]
    rw [isInField_c hk hc (Or.inl g), Option.bind_some, if_pos g, Option.bind_some]
  · obtain ⟨saved', count', n', q', f', l', inF', D', e3, hH', hB⟩ := isErased_s (F := F) (by omega) ha hH h hk hc g
    refine ⟨c0, f0, l0, s0, o0, saved', count', n', q', f', l', inF', fi, la, nu, mx0, mc0, mf0, ml0, wn, wi, wf, wl, li0, wy0, ch0, op0, nm0, lf0, rd0, is0, ia0, D', ?_, hH', hB⟩
    unfold fPaddockFieldsLaw_does
    rw [e1, Option.bind_some, e2, Option.bind_some, em, if_neg (show ¬ nI 8 < (0 : Int32) by decide), if_neg (show ¬ (8 : Int32) < nI 8 by decide), if_neg (show ¬ nI 8 = (0 : Int32) by decide), if_neg (show ¬ nI 8 = (1 : Int32) by decide), if_neg (show ¬ nI 8 = (2 : Int32) by decide), if_neg (show ¬ nI 8 = (3 : Int32) by decide), if_neg (show ¬ nI 8 = (4 : Int32) by decide), if_neg (show ¬ nI 8 = (5 : Int32) by decide), if_neg (show ¬ nI 8 = (6 : Int32) by decide), if_neg (show ¬ nI 8 = (7 : Int32) by decide), if_pos (show nI 8 = (8 : Int32) by decide)]
    rw [isInField_c hk hc (Or.inr g), Option.bind_some, if_neg (show ¬ inF (7 * row + col) = 0 by rw [g]; exact one_n0), e3, Option.bind_some]
    dsimp only
    rw [if_neg one_n0, Option.bind_some]
set_option maxRecDepth 100000 in
theorem does_9 (hF : 1200 < F) (ha : ∀ j k, j < 6 → k < 6 → a j = a k → j = k) (hH : HS a count saved n q f l) (hE : EV ef el ec) (h : FB nu inF fi la D) {row col : Nat} (hrow : row < 6) (hcol : col < 7) (e1 : fPaddockFieldsLaw_low (v >>> ((4 : Int32) &&& 31)) (6 : Int32) = some (nI row)) (e2 : fPaddockFieldsLaw_low (v >>> ((7 : Int32) &&& 31)) (7 : Int32) = some (nI col)) {m : Nat} (hm : 8 < m) (hm2 : m < 16) (em : v &&& (15 : Int32) = nI m) (mx0 : Int64) (mc0 : Int32) (mf0 ml0 : Nat → Int32) (c0 : Int32) (f0 l0 : Nat → Int32) (s0 : Nat → Int64) (o0 wn wi wf wl : Nat → Int32) (li0 wy0 : Int32) (ch0 : Nat → Int32) (op0 nm0 : Int64) (lf0 : Nat → Int32) (rd0 : Int32) (is0 ia0 : Nat → Int64) : ∃ (c' : Int32) (f1 l1 : Nat → Int32) (s1 : Nat → Int64) (o1 : Nat → Int32) (saved' : Nat → Option Nat) (count' : Int32) (n' q' f' l' : Nat → Nat → Int32) (inF' fi' la' nu' : Nat → Int32) (mx' : Int64) (mc' : Int32) (mf' ml' : Nat → Int32) (wn1 wi1 wf1 wl1 : Nat → Int32) (li1 wy1 : Int32) (ch1 : Nat → Int32) (op1 nm1 : Int64) (lf1 : Nat → Int32) (rd1 : Int32) (is1 ia1 : Nat → Int64) (D' : List (Nat × Nat)), fPaddockFieldsLaw_does F v w (a 0) (a 1) (a 2) (a 3) (a 4) (a 5) inF nu c0 ec ef f0 el l0 s0 o0 count saved (n 0) (q 0) fi (f 0) la (l 0) (n 1) (q 1) (f 1) (l 1) (n 2) (q 2) (f 2) (l 2) (n 3) (q 3) (f 3) (l 3) (n 4) (q 4) (f 4) (l 4) (n 5) (q 5) (f 5) (l 5) mx0 mc0 mf0 ml0 wn wi wf wl li0 wy0 ch0 op0 nm0 lf0 rd0 is0 ia0 = some (1, c', f1, l1, s1, o1, saved', count', (n' 0), (q' 0), (f' 0), (l' 0), (n' 1), (q' 1), (f' 1), (l' 1), (n' 2), (q' 2), (f' 2), (l' 2), (n' 3), (q' 3), (f' 3), (l' 3), (n' 4), (q' 4), (f' 4), (l' 4), (n' 5), (q' 5), (f' 5), (l' 5), inF', fi', la', nu', mx', mc', mf', ml', wn1, wi1, wf1, wl1, li1, wy1, ch1, op1, nm1, lf1, rd1, is1, ia1) ∧ HS a count' saved' n' q' f' l' ∧ FB nu' inF' fi' la' D' := by
  obtain ⟨p, -, ep⟩ := low_e w (n := 16) (by decide) (by decide)
  obtain ⟨saved', count', n', q', f', l', inF', fi', la', c', f1, l1, s1, o1, D', e3, hH', hB⟩ := isDrawn_s (w := nI (p % 16)) hF ha hH hE h hrow hcol c0 f0 l0 s0 o0
  refine ⟨c', f1, l1, s1, o1, saved', count', n', q', f', l', inF', fi', la', nu, mx0, mc0, mf0, ml0, wn, wi, wf, wl, li0, wy0, ch0, op0, nm0, lf0, rd0, is0, ia0, D', ?_, hH', hB⟩
  unfold fPaddockFieldsLaw_does
  rw [e1, Option.bind_some, e2, Option.bind_some, em, if_neg (nI_pos (by omega)), if_pos (show (8 : Int32) < nI m from nI_lt (a := 8) hm (by omega))]
  rw [show fPaddockFieldsLaw_low w (16 : Int32) = some (nI (p % 16)) from ep, Option.bind_some, e3, Option.bind_some]
  dsimp only
  rw [o_z_1, Option.bind_some]
theorem does_s (hF : 1200 < F) (ha : ∀ j k, j < 6 → k < 6 → a j = a k → j = k) (hH : HS a count saved n q f l) (hE : EV ef el ec) (h : FB nu inF fi la D) (v w : Int32) (mx0 : Int64) (mc0 : Int32) (mf0 ml0 : Nat → Int32) (c0 : Int32) (f0 l0 : Nat → Int32) (s0 : Nat → Int64) (o0 wn wi wf wl : Nat → Int32) (li0 wy0 : Int32) (ch0 : Nat → Int32) (op0 nm0 : Int64) (lf0 : Nat → Int32) (rd0 : Int32) (is0 ia0 : Nat → Int64) : ∃ (c' : Int32) (f1 l1 : Nat → Int32) (s1 : Nat → Int64) (o1 : Nat → Int32) (saved' : Nat → Option Nat) (count' : Int32) (n' q' f' l' : Nat → Nat → Int32) (inF' fi' la' nu' : Nat → Int32) (mx' : Int64) (mc' : Int32) (mf' ml' : Nat → Int32) (wn1 wi1 wf1 wl1 : Nat → Int32) (li1 wy1 : Int32) (ch1 : Nat → Int32) (op1 nm1 : Int64) (lf1 : Nat → Int32) (rd1 : Int32) (is1 ia1 : Nat → Int64) (D' : List (Nat × Nat)), fPaddockFieldsLaw_does F v w (a 0) (a 1) (a 2) (a 3) (a 4) (a 5) inF nu c0 ec ef f0 el l0 s0 o0 count saved (n 0) (q 0) fi (f 0) la (l 0) (n 1) (q 1) (f 1) (l 1) (n 2) (q 2) (f 2) (l 2) (n 3) (q 3) (f 3) (l 3) (n 4) (q 4) (f 4) (l 4) (n 5) (q 5) (f 5) (l 5) mx0 mc0 mf0 ml0 wn wi wf wl li0 wy0 ch0 op0 nm0 lf0 rd0 is0 ia0 = some (1, c', f1, l1, s1, o1, saved', count', (n' 0), (q' 0), (f' 0), (l' 0), (n' 1), (q' 1), (f' 1), (l' 1), (n' 2), (q' 2), (f' 2), (l' 2), (n' 3), (q' 3), (f' 3), (l' 3), (n' 4), (q' 4), (f' 4), (l' 4), (n' 5), (q' 5), (f' 5), (l' 5), inF', fi', la', nu', mx', mc', mf', ml', wn1, wi1, wf1, wl1, li1, wy1, ch1, op1, nm1, lf1, rd1, is1, ia1) ∧ HS a count' saved' n' q' f' l' ∧ FB nu' inF' fi' la' D' := by
  obtain ⟨m, hm, em⟩ : ∃ m, m < 16 ∧ v &&& (15 : Int32) = nI m := ⟨v.toBitVec.toNat % 2 ^ 4, Nat.mod_lt _ (by decide), by
    conv => lhs; rw [i32_nat v]
    exact fa_mask _ 4⟩
  obtain ⟨p1, -, e1⟩ := low_e (v >>> ((4 : Int32) &&& 31)) (n := 6) (by decide) (by decide)
  obtain ⟨p2, -, e2⟩ := low_e (v >>> ((7 : Int32) &&& 31)) (n := 7) (by decide) (by decide)
  have h1 : p1 % 6 < 6 := Nat.mod_lt _ (by decide)
  have h2 : p2 % 7 < 7 := Nat.mod_lt _ (by decide)
  by_cases c : 8 < m
  · exact does_9 hF ha hH hE h h1 h2 e1 e2 c hm em mx0 mc0 mf0 ml0 c0 f0 l0 s0 o0 wn wi wf wl li0 wy0 ch0 op0 nm0 lf0 rd0 is0 ia0
  · rcases (show m = 0 ∨ m = 1 ∨ m = 2 ∨ m = 3 ∨ m = 4 ∨ m = 5 ∨ m = 6 ∨ m = 7 ∨ m = 8 by omega) with rfl | rfl | rfl | rfl | rfl | rfl | rfl | rfl | rfl
    · exact does_0 hF ha hH hE h h1 h2 e1 e2 em mx0 mc0 mf0 ml0 c0 f0 l0 s0 o0 wn wi wf wl li0 wy0 ch0 op0 nm0 lf0 rd0 is0 ia0
    · exact does_1 hF ha hH hE h h1 h2 e1 e2 em mx0 mc0 mf0 ml0 c0 f0 l0 s0 o0 wn wi wf wl li0 wy0 ch0 op0 nm0 lf0 rd0 is0 ia0
    · exact does_2 hF ha hH hE h h1 h2 e1 e2 em mx0 mc0 mf0 ml0 c0 f0 l0 s0 o0 wn wi wf wl li0 wy0 ch0 op0 nm0 lf0 rd0 is0 ia0
    · exact does_3 hF ha hH hE h h1 h2 e1 e2 em mx0 mc0 mf0 ml0 c0 f0 l0 s0 o0 wn wi wf wl li0 wy0 ch0 op0 nm0 lf0 rd0 is0 ia0
    · exact does_4 hF ha hH hE h h1 h2 e1 e2 em mx0 mc0 mf0 ml0 c0 f0 l0 s0 o0 wn wi wf wl li0 wy0 ch0 op0 nm0 lf0 rd0 is0 ia0
    · exact does_5 hF ha hH hE h h1 h2 e1 e2 em mx0 mc0 mf0 ml0 c0 f0 l0 s0 o0 wn wi wf wl li0 wy0 ch0 op0 nm0 lf0 rd0 is0 ia0
    · exact does_6 hF ha hH hE h h1 h2 e1 e2 em mx0 mc0 mf0 ml0 c0 f0 l0 s0 o0 wn wi wf wl li0 wy0 ch0 op0 nm0 lf0 rd0 is0 ia0
    · exact does_7 hF ha hH hE h h1 h2 e1 e2 em mx0 mc0 mf0 ml0 c0 f0 l0 s0 o0 wn wi wf wl li0 wy0 ch0 op0 nm0 lf0 rd0 is0 ia0
    · exact does_8 hF ha hH hE h h1 h2 e1 e2 em mx0 mc0 mf0 ml0 c0 f0 l0 s0 o0 wn wi wf wl li0 wy0 ch0 op0 nm0 lf0 rd0 is0 ia0
end DS
