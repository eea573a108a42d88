/-! p47, THE MATHEMATICS: the law's helpers that change the board. Printed by wip/gen/stm47.py from its template. Own text. -/
theorem sm_remove {r : Nat × Nat} : ∀ {D : List (Nat × Nat)}, D.Pairwise DJ → (∀ x, x ∈ D → RC x.1 x.2) → r ∈ D → sm (D.filter (fun x => decide (x ≠ r))) sz + sz r = sm D sz
  | [], _, _, h => by cases h
  | y :: t, hp, hc, h => by
    obtain ⟨p1, p2⟩ := List.pairwise_cons.mp hp
    rw [sm_cons]
    by_cases q : y = r
    · have hrc := hc y List.mem_cons_self
      have e : t.filter (fun x => decide (x ≠ r)) = t := List.filter_eq_self.mpr (fun x hx => decide_eq_true (fun e => by
        have hd := p1 x hx
        rw [e, q] at hd
        rw [q] at hrc
        exact hd r.1 hrc.1 ⟨inb_iff.mpr (IN_a hrc), inb_iff.mpr (IN_a hrc)⟩))
      rw [List.filter_cons_of_neg (by rw [decide_eq_false (not_not_intro q)]; decide), e, q]
      omega
    · have hr : r ∈ t := (List.mem_cons.mp h).resolve_left (fun e => q e.symm)
      have ih := sm_remove p2 (fun x hx => hc x (List.mem_cons_of_mem _ hx)) hr
      rw [List.filter_cons_of_pos (p := fun x => decide (x ≠ r)) (decide_eq_true q), sm_cons]
      omega
theorem i32_nat (v : Int32) : v = nI v.toBitVec.toNat := by
  apply Int32.toBitVec_inj.mp
  show v.toBitVec = BitVec.ofNat 32 v.toBitVec.toNat
  rw [BitVec.ofNat_toNat, BitVec.setWidth_eq]
theorem low_e (v : Int32) {n : Nat} (h0 : 0 < n) (hn : n < 2 ^ 31) : ∃ p, p < 2 ^ 31 ∧ fPaddockFieldsLaw_low v (nI n) = some (nI (p % n)) := by
  refine ⟨v.toBitVec.toNat % 2 ^ 31, Nat.mod_lt _ (by decide), ?_⟩
  have e : v &&& (2147483647 : Int32) = nI (v.toBitVec.toNat % 2 ^ 31) := by
    conv => lhs; rw [i32_nat v]
    exact fa_mask _ 31
  unfold fPaddockFieldsLaw_low
  rw [e, remI (Nat.mod_lt _ (by decide)) h0 hn]
  rfl
section HP
variable {F : Nat} {a : Nat → Nat} {count : Int32} {saved : Nat → Option Nat} {n q f l : Nat → Nat → Int32} {nu inF fi la : Nat → Int32} {D : List (Nat × Nat)} {ef el : Nat → Int32} {ec : Nat → Int64} {k : Nat}
theorem FB.cif (h : FB nu inF fi la D) : cif inF = sm D sz := h.size
theorem FB.gone (h : FB nu inF fi la D) {r : Nat × Nat} (hr : r ∈ D) {inF' : Nat → Int32} (h' : FB nu inF' fi la (D.filter (fun x => decide (x ≠ r)))) {j : Nat} (hj : j < 42) (hi : inb r.1 r.2 j = true) : inF' j = 0 := (h'.2.2.2 j hj).2 (fun x hx => ts_nt (fun e => by
  obtain ⟨hx1, hx2⟩ := List.mem_filter.mp hx
  exact dj_all h.2.2.1 hx1 hr (of_decide_eq_true hx2) j hj ⟨e, hi⟩))
theorem isMade_s (hF : 1000 < F) (ha : ∀ j k, j < 6 → k < 6 → a j = a k → j = k) (hH : HS a count saved n q f l) (hE : EV ef el ec) (h : FB nu inF fi la D) {sd : Nat} (hsd : sd < 1000000) (mx0 : Int64) (mc0 : Int32) (mf0 ml0 : Nat → Int32) (c0 : Int32) (f0 l0 : Nat → Int32) (s0 : Nat → Int64) (o0 wn wi wf wl : Nat → Int32) (li0 wy0 : Int32) (ch0 : Nat → Int32) : ∃ (saved' : Nat → Option Nat) (count' : Int32) (n' q' f' l' : Nat → Nat → Int32) (inF' nu' : Nat → Int32) (mx' : Int64) (mc' : Int32) (mf' ml' : Nat → Int32) (c' : Int32) (f1 l1 : Nat → Int32) (s1 : Nat → Int64) (o1 wn1 wi1 wf1 wl1 : Nat → Int32) (li1 wy1 : Int32) (ch1 : Nat → Int32), fPaddockFieldsLaw_isMade F (nI sd) (a 0) (a 1) (a 2) (a 3) (a 4) (a 5) count saved nu (n 0) inF (q 0) fi (f 0) la (l 0) (n 1) (q 1) (f 1) (l 1) (n 2) (q 2) (f 2) (l 2) (n 3) (q 3) (f 3) (l 3) (n 4) (q 4) (f 4) (l 4) (n 5) (q 5) (f 5) (l 5) mx0 mc0 mf0 ml0 c0 ec ef f0 el l0 s0 o0 wn wi wf wl li0 wy0 ch0 = some (1, saved', count', (n' 0), (q' 0), (f' 0), (l' 0), (n' 1), (q' 1), (f' 1), (l' 1), (n' 2), (q' 2), (f' 2), (l' 2), (n' 3), (q' 3), (f' 3), (l' 3), (n' 4), (q' 4), (f' 4), (l' 4), (n' 5), (q' 5), (f' 5), (l' 5), inF', nu', mx', mc', mf', ml', c', f1, l1, s1, o1, wn1, wi1, wf1, wl1, li1, wy1, ch1) ∧ HS a count' saved' n' q' f' l' ∧ FB nu' inF' fi la [] := by
  obtain ⟨saved', count', n', q', f', l', inF', nu', mx', mc', mf', ml', em, hH', hB0, hw⟩ := make_e hF ha hH h hsd mx0 mc0 mf0 ml0
  have hB := hB0 fi la
  obtain ⟨z, ez⟩ := waysByCells_e (F := F) (by omega) hE hB c0 f0 l0 s0 o0 wn wi wf wl li0 wy0 ch0
  have hpos : ¬ nI (min 50 (WW nu' inF' (Tk inF'))) ≤ (0 : Int32) := nI_nle (by omega) (by omega)
  refine ⟨saved', count', n', q', f', l', inF', nu', mx', mc', mf', ml', z.1, z.2.1, z.2.2.1, z.2.2.2.1, z.2.2.2.2.1, z.2.2.2.2.2.1, z.2.2.2.2.2.2.1, z.2.2.2.2.2.2.2.1, z.2.2.2.2.2.2.2.2.1, z.2.2.2.2.2.2.2.2.2.1, z.2.2.2.2.2.2.2.2.2.2.1, z.2.2.2.2.2.2.2.2.2.2.2, ?_, hH', hB⟩
  unfold fPaddockFieldsLaw_isMade
  rw [em, Option.bind_some]
  dsimp only
  rw [numbers_e (by omega), Option.bind_some, if_neg (not_not_intro rfl), sum_e (by omega) hB.1, Option.bind_some, hB.sum42 hw, if_neg (not_not_intro (show nI 42 = (42 : Int32) from rfl)), fields_e (by omega) hB, Option.bind_some, if_neg (not_not_intro (show nI ([] : List (Nat × Nat)).length = (0 : Int32) from nI_0)), ez, Option.bind_some]
  exact if_neg hpos
theorem isErased_s {x y : Int32} (hF : 504 < F) (ha : ∀ j k, j < 6 → k < 6 → a j = a k → j = k) (hH : HS a count saved n q f l) (h : FB nu inF fi la D) (hk : k < 42) (hc : fX_checkedCell x y = some (nI k)) (hf : inF k = 1) : ∃ (saved' : Nat → Option Nat) (count' : Int32) (n' q' f' l' : Nat → Nat → Int32) (inF' : Nat → Int32) (D' : List (Nat × Nat)), fPaddockFieldsLaw_isErased F x y (a 0) (a 1) (a 2) (a 3) (a 4) (a 5) inF fi la count saved nu (n 0) (q 0) (f 0) (l 0) (n 1) (q 1) (f 1) (l 1) (n 2) (q 2) (f 2) (l 2) (n 3) (q 3) (f 3) (l 3) (n 4) (q 4) (f 4) (l 4) (n 5) (q 5) (f 5) (l 5) = some (1, saved', count', (n' 0), (q' 0), (f' 0), (l' 0), (n' 1), (q' 1), (f' 1), (l' 1), (n' 2), (q' 2), (f' 2), (l' 2), (n' 3), (q' 3), (f' 3), (l' 3), (n' 4), (q' 4), (f' 4), (l' 4), (n' 5), (q' 5), (f' 5), (l' 5), inF') ∧ HS a count' saved' n' q' f' l' ∧ FB nu inF' fi la D' := by
  rcases h.cell hk with ⟨g, -⟩ | ⟨-, r, hr, hi, -, -⟩
  · exact absurd (g.symm.trans hf) (by decide)
  have hrc := (h.2.1 r hr).1
  obtain ⟨saved', count', n', q', f', l', inF', ee, hH', hB⟩ := erase_e hF ha hH h hk hc hr hi
  have hsz := sm_remove h.2.2.1 (fun x hx => (h.2.1 x hx).1) hr
  have h1 := h.cif
  have h2 := hB.cif
  have hle := cif_le inF
  have z1 : inF' r.1 = 0 := h.gone hr hB hrc.1 (inb_iff.mpr (IN_a hrc))
  have z2 : inF' k = 0 := h.gone hr hB hk hi
  refine ⟨saved', count', n', q', f', l', inF', _, ?_, hH', hB⟩
  unfold fPaddockFieldsLaw_isErased
  rw [openCells_e (by omega), Option.bind_some, fieldSize_c h hk hc hr hi, Option.bind_some, cornerOf_c h hk hc hr hi, Option.bind_some, ee, Option.bind_some]
  dsimp only
  rw [if_neg (not_not_intro rfl), openCells_e (by omega), Option.bind_some, if_neg (not_not_intro (show nI (42 - cif inF') = nI (42 - cif inF) + nI (sz r) by rw [nI_add]; exact congrArg nI (by omega))), isInField_c hrc.1 (cck_s hrc.1) (Or.inl z1), Option.bind_some, if_neg (not_not_intro z1), isInField_c hk hc (Or.inl z2), Option.bind_some]
  exact if_neg (not_not_intro z2)
theorem isDrawn_s {row col : Nat} {w : Int32} (hF : 1200 < F) (ha : ∀ j k, j < 6 → k < 6 → a j = a k → j = k) (hH : HS a count saved n q f l) (hE : EV ef el ec) (h : FB nu inF fi la D) (hrow : row < 6) (hcol : col < 7) (c0 : Int32) (f0 l0 : Nat → Int32) (s0 : Nat → Int64) (o0 : Nat → Int32) : ∃ (saved' : Nat → Option Nat) (count' : Int32) (n' q' f' l' : Nat → Nat → Int32) (inF' fi' la' : Nat → Int32) (c' : Int32) (f1 l1 : Nat → Int32) (s1 : Nat → Int64) (o1 : Nat → Int32) (D' : List (Nat × Nat)), fPaddockFieldsLaw_isDrawn F (nI row) (nI col) w (a 0) (a 1) (a 2) (a 3) (a 4) (a 5) inF nu c0 ec ef f0 el l0 s0 o0 count saved (n 0) (q 0) fi (f 0) la (l 0) (n 1) (q 1) (f 1) (l 1) (n 2) (q 2) (f 2) (l 2) (n 3) (q 3) (f 3) (l 3) (n 4) (q 4) (f 4) (l 4) (n 5) (q 5) (f 5) (l 5) = some (1, c', f1, l1, s1, o1, saved', count', (n' 0), (q' 0), (f' 0), (l' 0), (n' 1), (q' 1), (f' 1), (l' 1), (n' 2), (q' 2), (f' 2), (l' 2), (n' 3), (q' 3), (f' 3), (l' 3), (n' 4), (q' 4), (f' 4), (l' 4), (n' 5), (q' 5), (f' 5), (l' 5), inF', fi', la') ∧ HS a count' saved' n' q' f' l' ∧ FB nu inF' fi' la' D' := by
  have hk : 7 * row + col < 42 := by omega
  have hc := cc_s hrow hcol
  obtain ⟨z1, e1⟩ := possibleFor_c (F := F) (by omega) hE hk hc c0 f0 l0 s0 o0 (nu := nu) (inF := inF)
  by_cases c : cfo nu inF (7 * row + col) = 0
  · refine ⟨saved, count, n, q, f, l, inF, fi, la, z1.1, z1.2.1, z1.2.2.1, z1.2.2.2.1, z1.2.2.2.2, D, ?_, hH, h⟩
    unfold fPaddockFieldsLaw_isDrawn
    rw [e1, Option.bind_some]
    exact if_neg (not_not_intro (show nI (cfo nu inF (7 * row + col)) = (0 : Int32) by rw [c]; exact nI_0))
  · have hle := cfo_le (nu := nu) (inF := inF) (k := 7 * row + col)
    have hpos : 0 < cfo nu inF (7 * row + col) := Nat.pos_of_ne_zero c
    obtain ⟨p, hp, e2⟩ := low_e w hpos (by omega)
    obtain ⟨r, z3, hrX, ho, e3⟩ := possibleAt_c (F := F) (by omega) hE hk hc (p := p % cfo nu inF (7 * row + col)) (Nat.mod_lt _ hpos) z1.1 z1.2.1 z1.2.2.1 z1.2.2.2.1 z1.2.2.2.2
    obtain ⟨hrc, hOK⟩ := mem_XL.mp hrX
    obtain ⟨o1, o2, o3, o4⟩ := OKown hOK
    have hb1 := hrc.1
    have hb2 := hrc.2.1
    obtain ⟨saved', count', n', q', f', l', inF', fi', la', ed, hH', hB⟩ := draw_e (F := F) (by omega) ha hH h hrX
    have hrD : r ∈ D ++ [r] := List.mem_append_right _ (List.mem_singleton.mpr rfl)
    have hi : inb r.1 r.2 (7 * row + col) = true := by rw [← ho]; exact o2
    have hnu : nu (7 * row + col) = nI (sz r) := by rw [← ho]; exact (OK_iff.mp hOK).2.2
    have g1 : inF' (7 * row + col) = 1 := ((hB.2.2.2 _ hk).1 r hrD hi).1
    have g2 : inF' r.2 = 1 := ((hB.2.2.2 _ hb2).1 r hrD (inb_iff.mpr (IN_b hrc))).1
    have s1 := h.cif
    have s2 := hB.cif
    rw [sm_append, sm_cons, sm_nil] at s2
    have s3 := cif_le inF'
    have d1 : nI (42 * r.1 + r.2) / (42 : Int32) = nI r.1 := by
      rw [show nI (42 * r.1 + r.2) / (42 : Int32) = nI ((42 * r.1 + r.2) / 42) from pk_div (d := 42) (by omega) (by decide) (by decide), show (42 * r.1 + r.2) / 42 = r.1 by omega]
    have d2 : nI (42 * r.1 + r.2) - nI r.1 * (42 : Int32) = nI r.2 := by
      rw [show (42 : Int32) = nI 42 from rfl, nI_mul, nI_sub (by omega), show 42 * r.1 + r.2 - r.1 * 42 = r.2 by omega]
    refine ⟨saved', count', n', q', f', l', inF', fi', la', z3.1, z3.2.1, z3.2.2.1, z3.2.2.2.1, z3.2.2.2.2, D ++ [r], ?_, hH', hB⟩
    have hu := hrc
    unfold RC at hu
    have r1 : fX_reasonAgainst F (nI (r.1 / 7)) (nI (r.1 % 7)) (nI (r.2 / 7)) (nI (r.2 % 7)) nu inF = some 0 := by
      rw [reasonAgainst_e (by omega) (by omega) (by omega) (by omega), show 7 * (r.1 / 7) + r.1 % 7 = r.1 by omega, show 7 * (r.2 / 7) + r.2 % 7 = r.2 by omega]
      exact reason_ok (by omega) hrc hOK
    have r2 : fX_reasonAgainst F (nI row) (nI col) (nI row) (nI col) nu inF' = some 1 := by
      rw [reasonAgainst_e (Nat.le_refl _) hrow (Nat.le_refl _) hcol]
      exact reason_one (by omega) hk (by rw [g1]; exact one_n0)
    unfold fPaddockFieldsLaw_isDrawn
    rw [e1, Option.bind_some]
    dsimp only
    rw [if_pos (nI_ne0 hpos (by omega)), e2, Option.bind_some, e3, Option.bind_some]
    dsimp only
    rw [d1, d2, nI_r7 (by omega), nI_d7 (by omega), nI_r7 (by omega), nI_d7 (by omega), openCells_e (by omega), Option.bind_some, numberAt_c hk hc, Option.bind_some, r1, Option.bind_some, if_neg (not_not_intro rfl), ed, Option.bind_some]
    dsimp only
    rw [openCells_e (by omega), Option.bind_some, hnu, if_neg (not_not_intro (show nI (42 - cif inF') = nI (42 - cif inF) - nI (sz r) by rw [nI_sub (by omega)]; exact congrArg nI (by omega))), Option.bind_some, if_neg (not_not_intro (show nI (cif inF') = (42 : Int32) - nI (42 - cif inF') by rw [show (42 : Int32) = nI 42 from rfl, nI_sub (by omega)]; exact congrArg nI (by omega))), fieldSize_c hB hk hc hrD hi, Option.bind_some, if_neg (not_not_intro rfl), cornerOf_c hB hk hc hrD hi, Option.bind_some, if_neg (not_not_intro rfl), isInField_c hb2 (by rw [cc_s (by omega) (by omega), show 7 * (r.2 / 7) + r.2 % 7 = r.2 by omega]) (Or.inr g2), Option.bind_some, g2, if_neg one_n0, r2, Option.bind_some]
    exact if_neg (not_not_intro rfl)
theorem isSettled_s (hF : 1200 < F) (ha : ∀ j k, j < 6 → k < 6 → a j = a k → j = k) (hH : HS a count saved n q f l) (hE : EV ef el ec) (h : FB nu inF fi la D) {R : Nat} (hR : RT nu inF R) (hcon : con nu inF (rit nu inF R) = false) (c0 : Int32) (f0 l0 : Nat → Int32) (s0 : Nat → Int64) (o0 : Nat → Int32) (op0 nm0 : Int64) (lf0 : Nat → Int32) (rd0 : Int32) (is0 ia0 : Nat → Int64) (wn wi wf wl : Nat → Int32) (li0 wy0 : Int32) (ch0 : Nat → Int32) : ∃ (saved' : Nat → Option Nat) (count' : Int32) (n' q' f' l' : Nat → Nat → Int32) (inF' fi' la' : Nat → Int32) (c' : Int32) (f1 l1 : Nat → Int32) (s1 : Nat → Int64) (o1 : Nat → Int32) (op1 nm1 : Int64) (lf1 : Nat → Int32) (rd1 : Int32) (is1 ia1 : Nat → Int64) (wn1 wi1 wf1 wl1 : Nat → Int32) (li1 wy1 : Int32) (ch1 : Nat → Int32) (D' : List (Nat × Nat)), fPaddockFieldsLaw_isSettled F (a 0) (a 1) (a 2) (a 3) (a 4) (a 5) inF nu c0 ec ef f0 el l0 s0 o0 op0 nm0 lf0 rd0 is0 ia0 wn wi fi wf la wl li0 wy0 ch0 count saved (n 0) (q 0) (f 0) (l 0) (n 1) (q 1) (f 1) (l 1) (n 2) (q 2) (f 2) (l 2) (n 3) (q 3) (f 3) (l 3) (n 4) (q 4) (f 4) (l 4) (n 5) (q 5) (f 5) (l 5) = some (1, c', f1, l1, s1, o1, op1, nm1, lf1, rd1, is1, ia1, wn1, wi1, wf1, wl1, li1, wy1, ch1, saved', count', (n' 0), (q' 0), (f' 0), (l' 0), (n' 1), (q' 1), (f' 1), (l' 1), (n' 2), (q' 2), (f' 2), (l' 2), (n' 3), (q' 3), (f' 3), (l' 3), (n' 4), (q' 4), (f' 4), (l' 4), (n' 5), (q' 5), (f' 5), (l' 5), inF', fi', la') ∧ HS a count' saved' n' q' f' l' ∧ FB nu inF' fi' la' D' := by
  obtain ⟨z1, e1⟩ := certain_e hF hE hR hcon c0 f0 l0 s0 o0 op0 nm0 lf0 rd0 is0 ia0
  obtain ⟨z2, e2⟩ := waysByCells_e (F := F) (by omega) hE h z1.1 z1.2.1 z1.2.2.1 z1.2.2.2.1 z1.2.2.2.2.1 wn wi wf wl li0 wy0 ch0
  have h42 : fb_ct (one nu inF (rit nu inF R)) 42 ≤ 42 := fb_ct_le _ _
  by_cases c : fb_ct (one nu inF (rit nu inF R)) 42 = 0
  · obtain ⟨saved', count', n', q', f', l', inF', fi', la', c', f1, l1, s1, o1, op1, nm1, lf1, rd1, is1, ia1, C, e4, hH', hB, hl, hW, hin⟩ := settle_e hF ha hH hE h hR hcon z2.1 z2.2.1 z2.2.2.1 z2.2.2.2.1 z2.2.2.2.2.1 z1.2.2.2.2.2.1 z1.2.2.2.2.2.2.1 z1.2.2.2.2.2.2.2.1 z1.2.2.2.2.2.2.2.2.1 z1.2.2.2.2.2.2.2.2.2.1 z1.2.2.2.2.2.2.2.2.2.2
    have hC0 : C.length = 0 := hl.trans c
    refine ⟨saved', count', n', q', f', l', inF', fi', la', c', f1, l1, s1, o1, op1, nm1, lf1, rd1, is1, ia1, z2.2.2.2.2.2.1, z2.2.2.2.2.2.2.1, z2.2.2.2.2.2.2.2.1, z2.2.2.2.2.2.2.2.2.1, z2.2.2.2.2.2.2.2.2.2.1, z2.2.2.2.2.2.2.2.2.2.2.1, z2.2.2.2.2.2.2.2.2.2.2.2, D ++ C, ?_, hH', hB⟩
    unfold fPaddockFieldsLaw_isSettled
    rw [e1, Option.bind_some]
    dsimp only
    rw [e2, Option.bind_some, fields_e (by omega) h, Option.bind_some]
    dsimp only
    rw [c, if_pos (show nI 0 ≤ (0 : Int32) by decide), e4, Option.bind_some]
    dsimp only
    rw [if_neg (not_not_intro (show nI C.length = (0 : Int32) by rw [hC0]; exact nI_0)), fields_e (by omega) hB, Option.bind_some]
    exact if_neg (not_not_intro (by rw [List.length_append, hC0, Nat.add_zero]))
  · have hpos : 0 < fb_ct (one nu inF (rit nu inF R)) 42 := Nat.pos_of_ne_zero c
    obtain ⟨hc0, z6, hc42, hone, e6⟩ := hint_e hF hE hR hcon hpos z2.1 z2.2.1 z2.2.2.1 z2.2.2.2.1 z2.2.2.2.2.1 z1.2.2.2.2.2.1 z1.2.2.2.2.2.2.1 z1.2.2.2.2.2.2.2.1 z1.2.2.2.2.2.2.2.2.1 z1.2.2.2.2.2.2.2.2.2.1 z1.2.2.2.2.2.2.2.2.2.2
    obtain ⟨z7, e7⟩ := leftFor_c hF hE hc42 (cck_s hc42) hR z6.1 z6.2.1 z6.2.2.1 z6.2.2.2.1 z6.2.2.2.2.1 z6.2.2.2.2.2.1 z6.2.2.2.2.2.2.1 z6.2.2.2.2.2.2.2.1 z6.2.2.2.2.2.2.2.2.1 z6.2.2.2.2.2.2.2.2.2.1 z6.2.2.2.2.2.2.2.2.2.2
    have hone2 : (XL nu inF).countP (lof nu (rit nu inF R) hc0) = 1 := of_decide_eq_true hone
    obtain ⟨saved', count', n', q', f', l', inF', fi', la', c', f1, l1, s1, o1, op1, nm1, lf1, rd1, is1, ia1, C, e8, hH', hB, hl, hW, hin⟩ := settle_e hF ha hH hE h hR hcon z7.1 z7.2.1 z7.2.2.1 z7.2.2.2.1 z7.2.2.2.2.1 z7.2.2.2.2.2.1 z7.2.2.2.2.2.2.1 z7.2.2.2.2.2.2.2.1 z7.2.2.2.2.2.2.2.2.1 z7.2.2.2.2.2.2.2.2.2.1 z7.2.2.2.2.2.2.2.2.2.2
    obtain ⟨z10, e10⟩ := waysByCells_e (F := F) (by omega) hE hB c' f1 l1 s1 o1 z2.2.2.2.2.2.1 z2.2.2.2.2.2.2.1 z2.2.2.2.2.2.2.2.1 z2.2.2.2.2.2.2.2.2.1 z2.2.2.2.2.2.2.2.2.2.1 z2.2.2.2.2.2.2.2.2.2.2.1 z2.2.2.2.2.2.2.2.2.2.2.2
    have g1 := hin hc0 hc42 hone
    refine ⟨saved', count', n', q', f', l', inF', fi', la', z10.1, z10.2.1, z10.2.2.1, z10.2.2.2.1, z10.2.2.2.2.1, op1, nm1, lf1, rd1, is1, ia1, z10.2.2.2.2.2.1, z10.2.2.2.2.2.2.1, z10.2.2.2.2.2.2.2.1, z10.2.2.2.2.2.2.2.2.1, z10.2.2.2.2.2.2.2.2.2.1, z10.2.2.2.2.2.2.2.2.2.2.1, z10.2.2.2.2.2.2.2.2.2.2.2, D ++ C, ?_, hH', hB⟩
    unfold fPaddockFieldsLaw_isSettled
    rw [e1, Option.bind_some]
    dsimp only
    rw [e2, Option.bind_some, fields_e (by omega) h, Option.bind_some]
    dsimp only
    rw [if_neg (nI_nle hpos (by omega)), e6, Option.bind_some]
    dsimp only
    rw [e7, Option.bind_some, hone2, if_neg (not_not_intro (show nI 1 = (1 : Int32) from rfl)), e8, Option.bind_some]
    dsimp only
    rw [hl, if_neg (not_not_intro rfl), fields_e (by omega) hB, Option.bind_some, if_neg (not_not_intro (show nI (D ++ C).length = nI D.length + nI (fb_ct (one nu inF (rit nu inF R)) 42) by rw [List.length_append, hl, nI_add])), e10, Option.bind_some, hW, if_neg (not_not_intro rfl), isInField_c hc42 (cck_s hc42) (Or.inr g1), Option.bind_some, g1]
    exact if_neg one_n0
theorem isFinished_s (hF : 1200 < F) (ha : ∀ j k, j < 6 → k < 6 → a j = a k → j = k) (hH : HS a count saved n q f l) (hE : EV ef el ec) (h : FB nu inF fi la D) (hw : WW nu inF (Tk inF) ≠ 0) (c0 : Int32) (f0 l0 : Nat → Int32) (s0 : Nat → Int64) (o0 wn wi wf wl : Nat → Int32) (li0 wy0 : Int32) (ch0 : Nat → Int32) : ∃ (saved' : Nat → Option Nat) (count' : Int32) (n' q' f' l' : Nat → Nat → Int32) (nu' inF' fi' la' : Nat → Int32) (c' : Int32) (f1 l1 : Nat → Int32) (s1 : Nat → Int64) (o1 wn1 wi1 wf1 wl1 : Nat → Int32) (li1 wy1 : Int32) (ch1 : Nat → Int32) (D' : List (Nat × Nat)), fPaddockFieldsLaw_isFinished F (a 0) (a 1) (a 2) (a 3) (a 4) (a 5) inF fi nu c0 ec ef f0 el l0 s0 o0 wn wi wf la wl li0 wy0 ch0 count saved (n 0) (q 0) (f 0) (l 0) (n 1) (q 1) (f 1) (l 1) (n 2) (q 2) (f 2) (l 2) (n 3) (q 3) (f 3) (l 3) (n 4) (q 4) (f 4) (l 4) (n 5) (q 5) (f 5) (l 5) = some (1, c', f1, l1, s1, o1, wn1, wi1, wf1, wl1, li1, wy1, ch1, saved', count', (n' 0), (q' 0), (f' 0), (l' 0), (n' 1), (q' 1), (f' 1), (l' 1), (n' 2), (q' 2), (f' 2), (l' 2), (n' 3), (q' 3), (f' 3), (l' 3), (n' 4), (q' 4), (f' 4), (l' 4), (n' 5), (q' 5), (f' 5), (l' 5), nu', inF', fi', la') ∧ HS a count' saved' n' q' f' l' ∧ FB nu' inF' fi' la' D' := by
  obtain ⟨Z, hZ⟩ := head_ex hw
  have k0 : (0 : Nat) < 42 := by decide
  have k1 : (41 : Nat) < 42 := by decide
  have cc0 : fX_checkedCell (0 : Int32) (0 : Int32) = some (nI 0) := cc_s (r := 0) (q := 0) (by decide) (by decide)
  have cc1 : fX_checkedCell (5 : Int32) (6 : Int32) = some (nI 41) := cc_s (r := 5) (q := 6) (by decide) (by decide)
  obtain ⟨r0, hr0, hi0, -⟩ := way_all h hZ k0
  obtain ⟨r1, hr1, hi1, -⟩ := way_all h hZ k1
  obtain ⟨z2, e2⟩ := sizeInFirst_c (F := F) (by omega) hE h hZ k0 cc0 hr0 hi0 c0 f0 l0 s0 o0 wn wi wf wl li0 wy0 ch0
  obtain ⟨z3, e3⟩ := cornerInFirst_c (F := F) (by omega) hE h hZ k1 cc1 hr1 hi1 z2.1 z2.2.1 z2.2.2.1 z2.2.2.2.1 z2.2.2.2.2.1 z2.2.2.2.2.2.1 z2.2.2.2.2.2.2.1 z2.2.2.2.2.2.2.2.1 z2.2.2.2.2.2.2.2.2.1 z2.2.2.2.2.2.2.2.2.2.1 z2.2.2.2.2.2.2.2.2.2.2.1 z2.2.2.2.2.2.2.2.2.2.2.2
  obtain ⟨saved', count', n', q', f', l', nu', inF', fi', la', c', f1, l1, s1, o1, wn1, wi1, wf1, wl1, li1, wy1, ch1, e4, hH', hB, hfull⟩ := finish_e hF ha hH hE h hZ z3.1 z3.2.1 z3.2.2.1 z3.2.2.2.1 z3.2.2.2.2.1 z3.2.2.2.2.2.1 z3.2.2.2.2.2.2.1 z3.2.2.2.2.2.2.2.1 z3.2.2.2.2.2.2.2.2.1 z3.2.2.2.2.2.2.2.2.2.1 z3.2.2.2.2.2.2.2.2.2.2.1 z3.2.2.2.2.2.2.2.2.2.2.2
  obtain ⟨u1, u2⟩ := hB.full hfull
  have hcif : cif inF' = 42 := fb_ct_all.mpr (fun k hk => decide_eq_true (by rw [hfull k hk]; exact one_n0))
  refine ⟨saved', count', n', q', f', l', nu', inF', fi', la', c', f1, l1, s1, o1, wn1, wi1, wf1, wl1, li1, wy1, ch1, D ++ Z, ?_, hH', hB⟩
  unfold fPaddockFieldsLaw_isFinished
  rw [fields_e (by omega) h, Option.bind_some, e2, Option.bind_some]
  dsimp only
  rw [e3, Option.bind_some]
  dsimp only
  rw [e4, Option.bind_some]
  dsimp only
  rw [fields_e (by omega) hB, Option.bind_some, if_neg (not_not_intro (show nI (D ++ Z).length = nI D.length + nI Z.length by rw [List.length_append, nI_add])), isFull_e (by omega), Option.bind_some, if_pos hcif, if_neg one_n0, openCells_e (by omega), Option.bind_some, hcif, if_neg (not_not_intro (show nI (42 - 42) = (0 : Int32) from nI_0)), fieldSize_c hB k0 cc0 hr0 hi0, Option.bind_some, if_neg (not_not_intro rfl), cornerOf_c hB k1 cc1 hr1 hi1, Option.bind_some, if_neg (not_not_intro rfl), numbers_e (by omega), Option.bind_some, Option.bind_some, if_neg (not_not_intro (show nI (D ++ Z).length = nI (cnu nu') from congrArg nI u1)), sum_e (by omega) hB.1, Option.bind_some, u2]
  exact if_neg (not_not_intro rfl)
end HP
