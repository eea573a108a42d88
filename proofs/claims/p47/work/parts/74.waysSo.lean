/-! p47, THE MATHEMATICS: the law's check of the ways. Own text. -/
theorem OK_cong {nu nu' inF inF' : Nat → Int32} (h1 : ∀ k, k < 42 → nu' k = nu k) (h2 : ∀ k, k < 42 → inF' k = inF k) (r : Nat × Nat) : OK nu' inF' r = OK nu inF r := by
  have e1 : fb_ct (tkn inF' r) 42 = fb_ct (tkn inF r) 42 := fb_ct_cong (fun k hk => by unfold tkn; rw [h2 k hk])
  have e2 : ∀ k, k < 42 → nmb nu' r k = nmb nu r k := fun k hk => by unfold nmb; rw [h1 k hk]
  have e3 : own nu' r = own nu r := first_cong e2
  unfold OK
  rw [e1, fb_ct_cong e2, e3]
  by_cases q : fb_ct (nmb nu r) 42 = 1
  · have := (ct_one q).1
    rw [h1 (own nu r) this]
  · rw [decide_eq_false q, Bool.false_and, Bool.false_and]
theorem XL_cong {nu nu' inF inF' : Nat → Int32} (h1 : ∀ k, k < 42 → nu' k = nu k) (h2 : ∀ k, k < 42 → inF' k = inF k) : XL nu' inF' = XL nu inF := List.filter_congr (fun r _ => OK_cong h1 h2 r)
theorem fils_cong {nu nu' inF inF' : Nat → Int32} (h1 : ∀ k, k < 42 → nu' k = nu k) (h2 : ∀ k, k < 42 → inF' k = inF k) : ∀ (D : Nat) (cov : Int64), fils nu' inF' D cov = fils nu inF D cov
  | 0, _ => rfl
  | D + 1, cov => by
    have e : cnd nu' inF' cov = cnd nu inF cov := by unfold cnd; rw [XL_cong h1 h2]
    rw [fils, fils, e]
    by_cases q : cov = ALL
    · rw [if_pos q, if_pos q]
    · rw [if_neg q, if_neg q, List.flatMap_def, List.flatMap_def]
      refine congrArg List.flatten (List.map_congr_left (fun r hr => ?_))
      rw [fils_cong h1 h2 D (cov ||| cs r)]
theorem Tk_cong {inF inF' : Nat → Int32} (h2 : ∀ k, k < 42 → inF' k = inF k) : Tk inF' = Tk inF := cset_cong (fun k hk => by rw [h2 k hk])
theorem FL_cong {nu nu' inF inF' : Nat → Int32} (h1 : ∀ k, k < 42 → nu' k = nu k) (h2 : ∀ k, k < 42 → inF' k = inF k) : FL nu' inF' (Tk inF') = FL nu inF (Tk inF) := by
  rw [Tk_cong h2]
  exact fils_cong h1 h2 43 _
theorem FB.cong {nu inF fi la nu' inF' fi' la' : Nat → Int32} {D : List (Nat × Nat)} (h : FB nu inF fi la D) (h1 : ∀ k, k < 42 → nu' k = nu k) (h2 : ∀ k, k < 42 → inF' k = inF k) (h3 : ∀ k, k < 42 → fi' k = fi k) (h4 : ∀ k, k < 42 → la' k = la k) : FB nu' inF' fi' la' D := by
  refine ⟨fun k hk => by rw [h1 k hk]; exact h.1 k hk, fun r hr => ?_, h.2.2.1, fun k hk => by rw [h2 k hk, h3 k hk, h4 k hk]; exact h.2.2.2 k hk⟩
  obtain ⟨f1, f2, f3⟩ := h.2.1 r hr
  have e2 : ∀ k, k < 42 → nmb nu' r k = nmb nu r k := fun k hk => by unfold nmb; rw [h1 k hk]
  have e3 : own nu' r = own nu r := first_cong e2
  refine ⟨f1, by rw [fb_ct_cong e2]; exact f2, ?_⟩
  rw [e3, h1 (own nu r) (ct_one f2).1]
  exact f3
section LW
variable {F : Nat} {nu inF fi la : Nat → Int32} {D Z : List (Nat × Nat)} {ef el : Nat → Int32} {ec : Nat → Int64} {k : Nat}
theorem missing_0 (hF : 42 < F) (h0 : ∀ k, k < 42 → inF k = 0) (fi i1 f1 l1 la : Nat → Int32) : fBoard_countFieldsMissingIn F inF fi i1 f1 l1 la = some 0 := by
  obtain ⟨z, -, e⟩ := lp0 (F := F) 42 hF (fun N i (_ : Unit) => fBoard_countFieldsMissingIn_L4 F inF fi i1 f1 l1 la N 0 (nI i)) (fun _ => ((0 : Int32), nI 42)) (fun _ _ => True) (a := ()) trivial
    (fun i a hi _ => by
      have e1 := ge42 hi
      have e2 : fBoard_isCorner (nI i) inF fi = some 0 := by
        rw [isCorner_s hi, if_neg (fun c => c.1 (h0 i hi))]
      refine ⟨(), trivial, fun N => ?_⟩
      simp only [fBoard_countFieldsMissingIn_L4, e1, if_false, e2, Option.bind_some, if_true, nI_1])
    (fun N a _ => by simp only [fBoard_countFieldsMissingIn_L4, le42, if_true])
  unfold fBoard_countFieldsMissingIn
  have e' : fBoard_countFieldsMissingIn_L4 F inF fi i1 f1 l1 la F 0 0 = some ((0 : Int32), nI 42) := e
  rw [e']
  rfl
/-- a turn over the cells -/
theorem aw1 (hF : 588 < F) (hE : EV ef el ec) (h : FB nu inF fi la D) (hZ : (FL nu inF (Tk inF)).head? = some Z) (hk : k < 42) {w : Int32} (hw : ¬ w ≤ 0) (c0 : Int32) (f0 l0 : Nat → Int32) (s0 : Nat → Int64) (o0 wn wi wf wl : Nat → Int32) (li0 wy0 : Int32) (ch0 : Nat → Int32) : ∃ z : Int32 × (Nat → Int32) × (Nat → Int32) × (Nat → Int64) × (Nat → Int32) × (Nat → Int32) × (Nat → Int32) × (Nat → Int32) × (Nat → Int32) × Int32 × Int32 × (Nat → Int32), ∀ N, fPaddockFieldsLaw_areWaysSo_L84 F w inF nu ec ef el fi la (N + 1) 1 (nI k) c0 f0 l0 s0 o0 wn wi wf wl li0 wy0 ch0 = fPaddockFieldsLaw_areWaysSo_L84 F w inF nu ec ef el fi la N 1 (nI k + 1) z.1 z.2.1 z.2.2.1 z.2.2.2.1 z.2.2.2.2.1 z.2.2.2.2.2.1 z.2.2.2.2.2.2.1 z.2.2.2.2.2.2.2.1 z.2.2.2.2.2.2.2.2.1 z.2.2.2.2.2.2.2.2.2.1 z.2.2.2.2.2.2.2.2.2.2.1 z.2.2.2.2.2.2.2.2.2.2.2 := by
  have e1 := ge42 hk
  obtain ⟨r, hr, hi, hin⟩ := way_all h hZ hk
  have hFD : FD nu r := by
    rcases List.mem_append.mp hr with q | q
    · exact h.2.1 r q
    · exact FD_of ((way_facts hZ).1 r q).1 ((way_facts hZ).1 r q).2
  have hrc := hFD.1
  have hr1 := hrc.1
  have hle : r.1 ≤ k := (inb_iff.mp hi).1
  obtain ⟨z1, a1⟩ := cornerInFirst_c hF hE h hZ hk (cck_s hk) hr hi c0 f0 l0 s0 o0 wn wi wf wl li0 wy0 ch0
  obtain ⟨z2, a2⟩ := sizeInFirst_c hF hE h hZ hk (cck_s hk) hr hi z1.1 z1.2.1 z1.2.2.1 z1.2.2.2.1 z1.2.2.2.2.1 z1.2.2.2.2.2.1 z1.2.2.2.2.2.2.1 z1.2.2.2.2.2.2.2.1 z1.2.2.2.2.2.2.2.2.1 z1.2.2.2.2.2.2.2.2.2.1 z1.2.2.2.2.2.2.2.2.2.2.1 z1.2.2.2.2.2.2.2.2.2.2.2
  obtain ⟨z3, a3⟩ := sizeInFirst_c hF hE h hZ hr1 (cck_s hr1) hr (inb_iff.mpr (IN_a hrc)) z2.1 z2.2.1 z2.2.2.1 z2.2.2.2.1 z2.2.2.2.2.1 z2.2.2.2.2.2.1 z2.2.2.2.2.2.2.1 z2.2.2.2.2.2.2.2.1 z2.2.2.2.2.2.2.2.2.1 z2.2.2.2.2.2.2.2.2.2.1 z2.2.2.2.2.2.2.2.2.2.2.1 z2.2.2.2.2.2.2.2.2.2.2.2
  have a4 : fX_numberAt (nI k / 7) (nI k - nI k / 7 * 7) nu = some (nu k) := numberAt_c hk (cck_s hk)
  have b1 : ¬ nI k < nI r.1 := nI_nlt hle (by omega)
  have b2 : nu k = 0 ∨ nu k = nI (sz r) := by
    by_cases q : nu k = 0
    · exact Or.inl q
    · have := (FDown hFD).2.2.2 k hk hi q
      exact Or.inr (by rw [this]; exact hFD.2.2)
  refine ⟨z3, fun N => ?_⟩
  rcases h.bit k hk with g | g
  · have a5 : fX_isInField (nI k / 7) (nI k - nI k / 7 * 7) inF = some 0 := by rw [isInField_c hk (cck_s hk) (Or.inl g), g]
    by_cases c2 : nu k = 0
    · simp only [fPaddockFieldsLaw_areWaysSo_L84, e1, if_false, hw, a1, Option.bind_some, a2, a3, a4, a5, one_n0, b1, c2, not_true_eq_false, if_true]
    · have c3 : nu k = nI (sz r) := b2.resolve_left c2
      have c2' : ¬ nI (sz r) = 0 := by rw [← c3]; exact c2
      simp only [fPaddockFieldsLaw_areWaysSo_L84, e1, if_false, hw, a1, Option.bind_some, a2, a3, a4, a5, one_n0, b1, c2', c3, not_true_eq_false, if_true]
  · have a5 : fX_isInField (nI k / 7) (nI k - nI k / 7 * 7) inF = some 1 := by rw [isInField_c hk (cck_s hk) (Or.inr g), g]
    have hrD := hin g
    have a6 := cornerOf_c h hk (cck_s hk) hrD hi
    have a7 := fieldSize_c h hk (cck_s hk) hrD hi
    by_cases c2 : nu k = 0
    · simp only [fPaddockFieldsLaw_areWaysSo_L84, e1, if_false, hw, a1, Option.bind_some, a2, a3, a4, a5, a6, a7, one_n0, b1, c2, not_true_eq_false, if_true]
    · have c3 : nu k = nI (sz r) := b2.resolve_left c2
      have c2' : ¬ nI (sz r) = 0 := by rw [← c3]; exact c2
      simp only [fPaddockFieldsLaw_areWaysSo_L84, e1, if_false, hw, a1, Option.bind_some, a2, a3, a4, a5, a6, a7, one_n0, b1, c2', c3, not_true_eq_false, if_true]
theorem aws_L (hF : 588 < F) (hE : EV ef el ec) (h : FB nu inF fi la D) (hZ : (FL nu inF (Tk inF)).head? = some Z) {w : Int32} (hw : ¬ w ≤ 0) (c0 : Int32) (f0 l0 : Nat → Int32) (s0 : Nat → Int64) (o0 wn wi wf wl : Nat → Int32) (li0 wy0 : Int32) (ch0 : Nat → Int32) : ∃ z : Int32 × (Nat → Int32) × (Nat → Int32) × (Nat → Int64) × (Nat → Int32) × (Nat → Int32) × (Nat → Int32) × (Nat → Int32) × (Nat → Int32) × Int32 × Int32 × (Nat → Int32), fPaddockFieldsLaw_areWaysSo_L84 F w inF nu ec ef el fi la F 1 0 c0 f0 l0 s0 o0 wn wi wf wl li0 wy0 ch0 = some (1, nI 42, z) := by
  obtain ⟨z, -, e⟩ := lp0 (F := F) 42 (by omega) (fun N i (a : Int32 × (Nat → Int32) × (Nat → Int32) × (Nat → Int64) × (Nat → Int32) × (Nat → Int32) × (Nat → Int32) × (Nat → Int32) × (Nat → Int32) × Int32 × Int32 × (Nat → Int32)) => fPaddockFieldsLaw_areWaysSo_L84 F w inF nu ec ef el fi la N 1 (nI i) a.1 a.2.1 a.2.2.1 a.2.2.2.1 a.2.2.2.2.1 a.2.2.2.2.2.1 a.2.2.2.2.2.2.1 a.2.2.2.2.2.2.2.1 a.2.2.2.2.2.2.2.2.1 a.2.2.2.2.2.2.2.2.2.1 a.2.2.2.2.2.2.2.2.2.2.1 a.2.2.2.2.2.2.2.2.2.2.2) (fun a => ((1 : Int32), nI 42, a)) (fun _ _ => True) (a := (c0, f0, l0, s0, o0, wn, wi, wf, wl, li0, wy0, ch0)) trivial
    (fun i a hi _ => by
      obtain ⟨z, ez⟩ := aw1 hF hE h hZ hi hw a.1 a.2.1 a.2.2.1 a.2.2.2.1 a.2.2.2.2.1 a.2.2.2.2.2.1 a.2.2.2.2.2.2.1 a.2.2.2.2.2.2.2.1 a.2.2.2.2.2.2.2.2.1 a.2.2.2.2.2.2.2.2.2.1 a.2.2.2.2.2.2.2.2.2.2.1 a.2.2.2.2.2.2.2.2.2.2.2
      refine ⟨z, trivial, fun N => ?_⟩
      have st := ez N
      rw [nI_1] at st
      exact st)
    (fun N a _ => by simp only [fPaddockFieldsLaw_areWaysSo_L84, le42, if_true])
  exact ⟨z, e⟩
theorem aws_0 {w : Int32} {G : Nat} (hG : 0 < G) (hw : w ≤ 0) (c0 : Int32) (f0 l0 : Nat → Int32) (s0 : Nat → Int64) (o0 wn wi wf wl : Nat → Int32) (li0 wy0 : Int32) (ch0 : Nat → Int32) : ∃ z : Int32 × (Nat → Int32) × (Nat → Int32) × (Nat → Int64) × (Nat → Int32) × (Nat → Int32) × (Nat → Int32) × (Nat → Int32) × (Nat → Int32) × Int32 × Int32 × (Nat → Int32), fPaddockFieldsLaw_areWaysSo_L84 F w inF nu ec ef el fi la G 1 0 c0 f0 l0 s0 o0 wn wi wf wl li0 wy0 ch0 = some (1, 0, z) := by
  obtain ⟨M, rfl⟩ : ∃ M, G = M + 1 := ⟨G - 1, by omega⟩
  have e1 : ¬ (42 : Int32) ≤ 0 := by decide
  refine ⟨(c0, f0, l0, s0, o0, wn, wi, wf, wl, li0, wy0, ch0), ?_⟩
  simp only [fPaddockFieldsLaw_areWaysSo_L84, e1, if_false, hw, if_true]
theorem strayFields_e (hF : 588 < F) (hE : EV ef el ec) (h : FB nu inF fi la []) (hw : WW nu inF (Tk inF) ≠ 0) (bn0 bi0 bf0 bl0 : Nat → Int32) (c0 : Int32) (f0 l0 : Nat → Int32) (s0 : Nat → Int64) (o0 wn wi wf wl : Nat → Int32) (li0 wy0 : Int32) (ch0 : Nat → Int32) : ∃ z, fX_strayFields F nu bn0 inF bi0 fi bf0 la bl0 c0 ec ef f0 el l0 s0 o0 wn wi wf wl li0 wy0 ch0 = some (0, z) := by
  have h0 : ∀ k, k < 42 → inF k = 0 := fun k hk => (h.2.2.2 k hk).2 (fun r hr => by cases hr)
  obtain ⟨n', i', f', l', ec', hcp⟩ := copy_s (F := F) (by omega) nu inF fi la h.bit bn0 bi0 bf0 bl0
  obtain ⟨i2, er, hi2⟩ := removeFields_s (F := F) (by omega) i'
  have q2 : ∀ k, k < 42 → i2 k = inF k := fun k hk => (hi2 k hk).trans (h0 k hk).symm
  have hB : FB n' i2 f' l' [] := h.cong (fun k hk => (hcp k hk).1) q2 (fun k hk => (hcp k hk).2.2.1) (fun k hk => (hcp k hk).2.2.2)
  obtain ⟨Z, hZ⟩ := head_ex hw
  rw [← FL_cong (fun k hk => (hcp k hk).1) q2] at hZ
  obtain ⟨a, wn', wi', wf', wl', li', wy', ch', -, -, e⟩ := firstWay_e hF hE hB hZ c0 f0 l0 s0 o0 wn wi wf wl li0 wy0 ch0
  unfold fX_strayFields fCellSearch_firstWay
  rw [ec', Option.bind_some]
  dsimp only
  rw [er, Option.bind_some, e, Option.bind_some, Option.bind_some]
  dsimp only
  rw [missing_0 (by omega) h0, Option.bind_some]
  exact ⟨_, rfl⟩
theorem full_W (hf : cif inF = 42) : WW nu inF (Tk inF) = 1 := by
  have e : Tk inF = ALL := (full_iff (inB_Tk inF)).mpr (by
    have e1 := fb_ct_not (fun k => decide (inF k ≠ 0)) 42
    have e2 : frc (Tk inF) = fb_ct (fun k => !decide (inF k ≠ 0)) 42 := by
      unfold frc
      exact fb_ct_cong (fun k hk => by rw [tb_Tk hk])
    rw [e2]
    unfold cif at hf
    omega)
  rw [e, WW_full]
theorem areWaysSo_s (hF : 1200 < F) (hE : EV ef el ec) (h : FB nu inF fi la D) (c0 : Int32) (f0 l0 : Nat → Int32) (s0 : Nat → Int64) (o0 wn wi wf wl : Nat → Int32) (li0 wy0 : Int32) (ch0 : Nat → Int32) (nn0 : Int64) (nw0 : Int32) (nc0 : Nat → Int32) (op0 nm0 : Int64) (lf0 : Nat → Int32) (rd0 : Int32) (is0 ia0 : Nat → Int64) (bn0 bi0 bf0 bl0 : Nat → Int32) : ∃ z, fPaddockFieldsLaw_areWaysSo F inF nu c0 ec ef f0 el l0 s0 o0 wn wi fi wf la wl li0 wy0 ch0 nn0 nw0 nc0 op0 nm0 lf0 rd0 is0 ia0 bn0 bi0 bf0 bl0 = some (1, z) := by
  obtain ⟨z1, e1⟩ := waysByCells_e (F := F) (by omega) hE h c0 f0 l0 s0 o0 wn wi wf wl li0 wy0 ch0
  obtain ⟨z2, e2⟩ := waysByNumbers_e (F := F) (by omega) hE nu inF z1.1 z1.2.1 z1.2.2.1 z1.2.2.2.1 z1.2.2.2.2.1 nn0 nw0 nc0
  obtain ⟨z3, e3⟩ := isUnique_e (F := F) (by omega) hE h z2.1 z2.2.1 z2.2.2.1 z2.2.2.2.1 z2.2.2.2.2.1 z1.2.2.2.2.2.1 z1.2.2.2.2.2.2.1 z1.2.2.2.2.2.2.2.1 z1.2.2.2.2.2.2.2.2.1 z1.2.2.2.2.2.2.2.2.2.1 z1.2.2.2.2.2.2.2.2.2.2.1 z1.2.2.2.2.2.2.2.2.2.2.2
  obtain ⟨-, R, -, -, -, -, hR, -⟩ := xrun_s hF hE nu inF c0 f0 l0 s0 o0 op0 nm0 lf0 rd0 is0 ia0
  obtain ⟨z5, e5⟩ := isContradiction_e hF hE hR z3.1 z3.2.1 z3.2.2.1 z3.2.2.2.1 z3.2.2.2.2.1 op0 nm0 lf0 rd0 is0 ia0
  have e7 := sum_e (F := F) (by omega) h.1
  have e9 := isFull_e (F := F) (by omega) inF
  have e22 := fields_e (F := F) (by omega) h
  have hlen : D.length ≤ 42 := by
    have q1 := h.fields
    have q2 := fb_ct_le (crn inF fi) 42
    omega
  have u1 : ¬ nI (min 50 (WW nu inF (Tk inF))) < (0 : Int32) := nI_pos (by omega)
  have u2 : ¬ (50 : Int32) < nI (min 50 (WW nu inF (Tk inF))) := nI_nlt (a := 50) (by omega) (by decide)
  unfold fPaddockFieldsLaw_areWaysSo
  rw [e1, Option.bind_some]
  dsimp only
  rw [e2, Option.bind_some]
  dsimp only
  rw [if_neg (not_not_intro rfl), if_neg u1, if_neg u2, e3, Option.bind_some]
  dsimp only
  by_cases hw : WW nu inF (Tk inF) = 0
  · have w0 : nI (min 50 (WW nu inF (Tk inF))) = (0 : Int32) := by rw [hw]; exact nI_0
    have w1 : ¬ nI (min 50 (WW nu inF (Tk inF))) = (1 : Int32) := by rw [w0]; decide
    have w2 : ¬ WW nu inF (Tk inF) = 1 := by omega
    have hnf : ¬ cif inF = 42 := fun c => by rw [full_W c] at hw; cases hw
    rw [if_neg w2, if_pos w1, Option.bind_some, if_neg (not_not_intro rfl), e5, Option.bind_some]
    dsimp only
    have j6 : (if bI (con nu inF (rit nu inF R)) = (0 : Int32) then some () else if ¬ nI (min 50 (WW nu inF (Tk inF))) = (0 : Int32) then none else some ()) = some () := by
      by_cases c : bI (con nu inF (rit nu inF R)) = (0 : Int32)
      · rw [if_pos c]
      · rw [if_neg c, if_neg (not_not_intro w0)]
    rw [j6, Option.bind_some, if_pos w0, Option.bind_some, e9, Option.bind_some, if_neg hnf, if_pos rfl, Option.bind_some]
    obtain ⟨z21, e21⟩ := aws_0 (F := F) (nu := nu) (inF := inF) (fi := fi) (la := la) (ef := ef) (el := el) (ec := ec) (w := nI (min 50 (WW nu inF (Tk inF)))) (G := F) (by omega) (by rw [w0]; exact Int32.le_refl 0) z5.1 z5.2.1 z5.2.2.1 z5.2.2.2.1 z5.2.2.2.2.1 z3.2.2.2.2.2.1 z3.2.2.2.2.2.2.1 z3.2.2.2.2.2.2.2.1 z3.2.2.2.2.2.2.2.2.1 z3.2.2.2.2.2.2.2.2.2.1 z3.2.2.2.2.2.2.2.2.2.2.1 z3.2.2.2.2.2.2.2.2.2.2.2
    rw [e21, Option.bind_some]
    dsimp only
    rw [if_neg one_n0, e22, Option.bind_some]
    by_cases c : (0 : Int32) < nI D.length
    · rw [if_pos c, Option.bind_some]
      exact ⟨_, rfl⟩
    · rw [if_neg c, if_pos w0, Option.bind_some]
      exact ⟨_, rfl⟩
  · have w0 : ¬ nI (min 50 (WW nu inF (Tk inF))) = (0 : Int32) := nI_ne0 (by omega) (by omega)
    have w0' : ¬ nI (min 50 (WW nu inF (Tk inF))) ≤ (0 : Int32) := nI_nle (by omega) (by omega)
    have hcon : con nu inF (rit nu inF R) = false := ts_nt (fun c => hw (con_W (rit_KP R) c))
    have h42 := h.sum42 hw
    have j4 : (if ¬ nI (min 50 (WW nu inF (Tk inF))) = (1 : Int32) then some (0 : Int32) else some (1 : Int32)) = some (if WW nu inF (Tk inF) = 1 then 1 else 0) := by
      by_cases c : WW nu inF (Tk inF) = 1
      · rw [if_neg (not_not_intro (show nI (min 50 (WW nu inF (Tk inF))) = (1 : Int32) by rw [c]; rfl)), if_pos c]
      · rw [if_pos (fun c2 => c (by
          have := nI_inj (a := min 50 (WW nu inF (Tk inF))) (b := 1) (by omega) (by decide) c2
          omega)), if_neg c]
    rw [j4, Option.bind_some, if_neg (not_not_intro rfl), e5, Option.bind_some]
    dsimp only
    rw [hcon, bI_f, if_pos rfl, Option.bind_some, if_neg w0, e7, Option.bind_some, h42, if_neg (not_not_intro (show nI 42 = (42 : Int32) from rfl)), Option.bind_some, e9, Option.bind_some]
    have j10 : (if (if cif inF = 42 then (1 : Int32) else 0) = (0 : Int32) then some () else if ¬ nI (min 50 (WW nu inF (Tk inF))) = (1 : Int32) then none else some ()) = some () := by
      by_cases c : cif inF = 42
      · rw [if_pos c, if_neg one_n0, if_neg (not_not_intro (show nI (min 50 (WW nu inF (Tk inF))) = (1 : Int32) by rw [full_W c]; rfl))]
      · rw [if_neg c, if_pos rfl]
    rw [j10, Option.bind_some]
    obtain ⟨Z, hZ⟩ := head_ex hw
    obtain ⟨z21, e21⟩ := aws_L (F := F) (by omega) hE h hZ w0' z5.1 z5.2.1 z5.2.2.1 z5.2.2.2.1 z5.2.2.2.2.1 z3.2.2.2.2.2.1 z3.2.2.2.2.2.2.1 z3.2.2.2.2.2.2.2.1 z3.2.2.2.2.2.2.2.2.1 z3.2.2.2.2.2.2.2.2.2.1 z3.2.2.2.2.2.2.2.2.2.2.1 z3.2.2.2.2.2.2.2.2.2.2.2
    rw [e21, Option.bind_some]
    dsimp only
    rw [if_neg one_n0, e22, Option.bind_some]
    by_cases c : (0 : Int32) < nI D.length
    · rw [if_pos c, Option.bind_some]
      exact ⟨_, rfl⟩
    · have hl0 : D = [] := List.length_eq_zero_iff.mp (Classical.byContradiction (fun q => c (nI_lt (a := 0) (Nat.pos_of_ne_zero q) (by omega))))
      subst hl0
      obtain ⟨z23, e23⟩ := strayFields_e (F := F) (by omega) hE h hw bn0 bi0 bf0 bl0 z21.1 z21.2.1 z21.2.2.1 z21.2.2.2.1 z21.2.2.2.2.1 z21.2.2.2.2.2.1 z21.2.2.2.2.2.2.1 z21.2.2.2.2.2.2.2.1 z21.2.2.2.2.2.2.2.2.1 z21.2.2.2.2.2.2.2.2.2.1 z21.2.2.2.2.2.2.2.2.2.2.1 z21.2.2.2.2.2.2.2.2.2.2.2
      rw [if_neg c, if_neg w0, e23, Option.bind_some]
      dsimp only
      rw [if_neg (not_not_intro rfl), Option.bind_some]
      exact ⟨_, rfl⟩
end LW
