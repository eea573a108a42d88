/-! p47, THE MATHEMATICS: what the class's own methods answer, on a board whose fields are so. Own text. -/
theorem cc_s {r q : Nat} (hr : r < 6) (hq : q < 7) : fX_checkedCell (nI r) (nI q) = some (nI (7 * r + q)) := by
  unfold fX_checkedCell fX_cellAt
  rw [if_neg (nI_pos (by omega)), if_neg (show ¬ (6 : Int32) ≤ nI r from nI_ge (b := 6) hr (by decide)), if_neg (nI_pos (by omega)), if_pos (show nI q < (7 : Int32) from nI_lt (b := 7) hq (by decide)), Option.bind_some, show (7 : Int32) = nI 7 from rfl, nI_mul, nI_add, Nat.mul_comm r 7]
theorem cck_s {k : Nat} (hk : k < 42) : fX_checkedCell (nI k / 7) (nI k - nI k / 7 * 7) = some (nI k) := by
  rw [nI_r7 (by omega), nI_d7 (by omega), cc_s (by omega) (by omega), show 7 * (k / 7) + k % 7 = k by omega]
theorem sizeOfField_s {fi la : Nat → Int32} {k a b : Nat} (hk : k < 42) (hr : RC a b) (ea : fi k = nI a) (eb : la k = nI b) : fBoard_sizeOfField (nI k) fi la = some (nI (sz (a, b))) := by
  unfold fBoard_sizeOfField
  rw [fX_isCell_s hk, Option.bind_some, if_neg (by decide), o_rd_s hk (by decide), Option.bind_some, o_rd_s hk (by decide), Option.bind_some, ea, eb, sizeOf_s hr]
  rfl
theorem reason_ok {F : Nat} (hF : 42 < F) {nu inF : Nat → Int32} {a b : Nat} (hr : RC a b) (h : OK nu inF (a, b) = true) : fBoard_reason F (nI a) (nI b) nu inF = some 0 := by
  obtain ⟨h1, h2, h3⟩ := OK_iff.mp h
  obtain ⟨o1, o2, o3, o4⟩ := OKown h
  have e1 : cs (a, b) &&& Tk inF = 0 := by rw [cs_Tk]; exact (cset_ct0 _).mpr h1
  have e2 : fJ_bitCount (cs (a, b) &&& Nm nu) = nI 1 := by rw [cs_Nm, bc_cset, h2]
  have e3 : isum (fun k => if tb (cs (a, b)) k = true then nu k else 0) 42 = nI (sz (a, b)) := by
    rw [isum_cong (g := fun k => if k = own nu (a, b) then nI (sz (a, b)) else 0), isum_one, if_pos o1]
    intro k hk
    rw [tb_cs hk]
    by_cases q : k = own nu (a, b)
    · rw [if_pos q, q, if_pos o2, h3]
    · rw [if_neg q]
      by_cases q2 : inb a b k = true
      · rw [if_pos q2]
        exact Classical.byContradiction (fun c => q (o4 k hk q2 c))
      · rw [if_neg q2]
  unfold fBoard_reason
  rw [cellsOf_e hF hr.1 hr.2.1, Option.bind_some, cellsWithNumber_e hF, Option.bind_some, cellsInFields_e hF, Option.bind_some, if_pos e1, e2, if_pos (show ¬ nI 1 = (0 : Int32) by decide), if_pos (show nI 1 ≤ (1 : Int32) by decide), sumIn_s hF, Option.bind_some, e3, sizeOf_s hr, Option.bind_some]
  exact if_neg (not_not_intro rfl)
theorem reason_one {F : Nat} (hF : 42 < F) {nu inF : Nat → Int32} {k : Nat} (hk : k < 42) (h : inF k ≠ 0) : fBoard_reason F (nI k) (nI k) nu inF = some 1 := by
  have e1 : ¬ cs (k, k) &&& Tk inF = 0 := by
    rw [cs_Tk]
    refine (cset_n0 _).mpr ⟨k, hk, ?_⟩
    show (inb k k k && decide (inF k ≠ 0)) = true
    rw [inb_iff.mpr (show IN k k k by unfold IN; omega), decide_eq_true h]
    rfl
  unfold fBoard_reason
  rw [cellsOf_e hF hk hk, Option.bind_some, cellsWithNumber_e hF, Option.bind_some, cellsInFields_e hF, Option.bind_some]
  exact if_neg e1
section AS
variable {F : Nat} {nu inF fi la : Nat → Int32} {D : List (Nat × Nat)} {ef el : Nat → Int32} {ec : Nat → Int64} {x y : Int32} {k : Nat}
theorem numberAt_c (hk : k < 42) (hc : fX_checkedCell x y = some (nI k)) : fX_numberAt x y nu = some (nu k) := by
  unfold fX_numberAt
  rw [hc, Option.bind_some, numberIn_s hk]
  rfl
theorem isInField_c (hk : k < 42) (hc : fX_checkedCell x y = some (nI k)) (hb : inF k = 0 ∨ inF k = 1) : fX_isInField x y inF = some (inF k) := by
  unfold fX_isInField
  rw [hc, Option.bind_some, hasField_s hk hb, Option.bind_some]
  rcases hb with e | e
  · rw [e]; rfl
  · rw [e]; rfl
theorem checkedField_c (hk : k < 42) (hc : fX_checkedCell x y = some (nI k)) (he : inF k = 1) : fX_checkedFieldCell x y inF = some (nI k) := by
  unfold fX_checkedFieldCell
  rw [hc, Option.bind_some, hasField_s hk (Or.inr he), Option.bind_some, if_pos (by rw [he]; exact one_n0)]
theorem cornerOf_c (h : FB nu inF fi la D) (hk : k < 42) (hc : fX_checkedCell x y = some (nI k)) {r : Nat × Nat} (hr : r ∈ D) (hi : inb r.1 r.2 k = true) : fX_cornerOf x y inF fi = some (nI r.1) := by
  obtain ⟨e1, e2, e3⟩ := (h.2.2.2 k hk).1 r hr hi
  unfold fX_cornerOf
  rw [checkedField_c hk hc e1, Option.bind_some, firstOfField_s hk, e2]
  rfl
theorem fieldSize_c (h : FB nu inF fi la D) (hk : k < 42) (hc : fX_checkedCell x y = some (nI k)) {r : Nat × Nat} (hr : r ∈ D) (hi : inb r.1 r.2 k = true) : fX_fieldSize x y inF fi la = some (nI (sz r)) := by
  obtain ⟨e1, e2, e3⟩ := (h.2.2.2 k hk).1 r hr hi
  unfold fX_fieldSize
  rw [checkedField_c hk hc e1, Option.bind_some, sizeOfField_s hk (h.2.1 r hr).1 e2 e3]
  rfl
/-- how many cells are in fields -/
def cif (inF : Nat → Int32) : Nat := fb_ct (fun k => decide (inF k ≠ 0)) 42
theorem cif_le (inF : Nat → Int32) : cif inF ≤ 42 := fb_ct_le _ _
theorem bc_Tk (inF : Nat → Int32) : fJ_bitCount (Tk inF) = nI (cif inF) := bc_cset _
theorem openCells_e (hF : 42 < F) (inF : Nat → Int32) : fX_openCells F inF = some (nI (42 - cif inF)) := by
  unfold fX_openCells fX_countOpenCells
  rw [cellsInFields_e hF, Option.bind_some, bc_Tk, show (42 : Int32) = nI 42 from rfl, nI_sub (cif_le inF)]
  rfl
theorem isFull_e (hF : 42 < F) (inF : Nat → Int32) : fX_isFull F inF = some (if cif inF = 42 then 1 else 0) := by
  unfold fX_isFull
  rw [cellsInFields_e hF, Option.bind_some]
  have e : Tk inF = (4398046511103 : Int64) ↔ cif inF = 42 := by
    show Tk inF = ALL ↔ _
    rw [full_iff (inB_Tk inF)]
    have e1 := fb_ct_not (fun k => decide (inF k ≠ 0)) 42
    have e2 : frc (Tk inF) = fb_ct (fun k => !decide (inF k ≠ 0)) 42 := by
      unfold frc
      exact fb_ct_cong (fun k hk => by rw [tb_Tk hk])
    rw [e2]
    unfold cif
    omega
  by_cases q : cif inF = 42
  · rw [if_neg (not_not_intro (e.mpr q)), if_pos q]
  · rw [if_pos (fun c => q (e.mp c)), if_neg q]
theorem fields_e (hF : 42 < F) (h : FB nu inF fi la D) : fX_fields F inF fi = some (nI D.length) := by
  unfold fX_fields
  rw [countFields_s hF, h.fields]
  rfl
/-- how many numbers there are -/
def cnu (nu : Nat → Int32) : Nat := fb_ct (fun k => decide (nu k ≠ 0)) 42
theorem numbers_e (hF : 42 < F) (nu : Nat → Int32) : fX_numbers F nu = some (nI (cnu nu)) := by
  unfold fX_numbers
  rw [cellsWithNumber_e hF, Option.bind_some]
  exact congrArg some (bc_cset _)
theorem sum_e (hF : 42 < F) (hn : NV nu) : fX_sum F nu = some (nI (fb_sm (fun k => nv (nu k)) 42)) := by
  unfold fX_sum
  rw [sumIn_s hF, Option.bind_some]
  refine congrArg some (Eq.trans (isum_cong (fun k hk => ?_)) (isum_nv hn))
  show (if tb ALL k = true then nu k else 0) = nu k
  rw [tb_ALL, if_pos (decide_eq_true hk)]
/-- how many rectangles are possible for a cell's number, over a cell -/
def cfo (nu inF : Nat → Int32) (k : Nat) : Nat := (XL nu inF).countP (fun r => decide (own nu r = k))
def cov (nu inF : Nat → Int32) (k : Nat) : Nat := (XL nu inF).countP (fun r => inb r.1 r.2 k)
theorem possibleFor_c (hF : 588 < F) (hE : EV ef el ec) (hk : k < 42) (hc : fX_checkedCell x y = some (nI k)) (c0 : Int32) (f0 l0 : Nat → Int32) (s0 : Nat → Int64) (o0 : Nat → Int32) : ∃ z, fX_possibleFor F x y inF nu c0 ec ef f0 el l0 s0 o0 = some (nI (cfo nu inF k), z) := by
  obtain ⟨a, ha, ea⟩ := find_s hF hE nu inF c0 f0 l0 s0 o0
  unfold fX_possibleFor
  rw [hc, Option.bind_some, ea, Option.bind_some, X_countOf hF ha hk, Option.bind_some]
  exact ⟨_, rfl⟩
theorem coveredBy_c (hF : 588 < F) (hE : EV ef el ec) (hk : k < 42) (hc : fX_checkedCell x y = some (nI k)) (c0 : Int32) (f0 l0 : Nat → Int32) (s0 : Nat → Int64) (o0 : Nat → Int32) : ∃ z, fX_coveredBy F x y inF nu c0 ec ef f0 el l0 s0 o0 = some (nI (cov nu inF k), z) := by
  obtain ⟨a, ha, ea⟩ := find_s hF hE nu inF c0 f0 l0 s0 o0
  unfold fX_coveredBy
  rw [hc, Option.bind_some, ea, Option.bind_some, X_countOver hF ha hk, Option.bind_some]
  exact ⟨_, rfl⟩
theorem claimedBy_c (hF : 588 < F) (hE : EV ef el ec) (hk : k < 42) (hc : fX_checkedCell x y = some (nI k)) (c0 : Int32) (f0 l0 : Nat → Int32) (s0 : Nat → Int64) (o0 : Nat → Int32) : ∃ z, fX_claimedBy F x y inF nu c0 ec ef f0 el l0 s0 o0 = some (nI (fb_ct (clm nu (XL nu inF) k) 42), z) := by
  obtain ⟨a, ha, ea⟩ := find_s hF hE nu inF c0 f0 l0 s0 o0
  unfold fX_claimedBy
  rw [hc, Option.bind_some, ea, Option.bind_some, X_countOwnersOver hF ha hk, Option.bind_some]
  exact ⟨_, rfl⟩
theorem possible_e (hF : 588 < F) (hE : EV ef el ec) (nu inF : Nat → Int32) (c0 : Int32) (f0 l0 : Nat → Int32) (s0 : Nat → Int64) (o0 : Nat → Int32) : ∃ z, fX_possible F inF nu c0 ec ef f0 el l0 s0 o0 = some (nI (XL nu inF).length, z) := by
  obtain ⟨a, ha, ea⟩ := find_s hF hE nu inF c0 f0 l0 s0 o0
  unfold fX_possible fRectangles_size
  rw [ea, Option.bind_some, Option.bind_some, ha.1]
  exact ⟨_, rfl⟩
theorem possibleAt_c (hF : 588 < F) (hE : EV ef el ec) (hk : k < 42) (hc : fX_checkedCell x y = some (nI k)) {p : Nat} (hp : p < cfo nu inF k) (c0 : Int32) (f0 l0 : Nat → Int32) (s0 : Nat → Int64) (o0 : Nat → Int32) : ∃ r z, r ∈ XL nu inF ∧ own nu r = k ∧ fX_possibleAt F x y (nI p) inF nu c0 ec ef f0 el l0 s0 o0 = some (nI (42 * r.1 + r.2), z) := by
  obtain ⟨a, ha, ea⟩ := find_s hF hE nu inF c0 f0 l0 s0 o0
  have hlen : (LK nu inF k).length = cfo nu inF k := List.countP_eq_length_filter.symm
  have h588 := cnt588 nu inF (fun r => decide (own nu r = k))
  have hp2 : p < 588 := Nat.lt_of_lt_of_le hp h588
  obtain ⟨i, r, hi, hr, e⟩ := X_indexOf hF ha hk (by rw [hlen]; exact hp)
  obtain ⟨hir, hiX, -, hrc, -⟩ := XL_get hi
  have ho : own nu r = k := (mem_LK.mp (List.mem_of_getElem? hr)).2
  refine ⟨r, (a.1, a.2.1, a.2.2.1, a.2.2.2.1, a.2.2.2.2), hiX, ho, ?_⟩
  unfold fX_possibleAt
  rw [hc, Option.bind_some, ea, Option.bind_some, if_neg (nI_pos (by omega)), X_countOf hF ha hk, Option.bind_some, if_pos (show nI p < nI ((XL nu inF).countP (fun r => decide (own nu r = k))) from nI_lt hp (by omega)), e, Option.bind_some]
  have hx := XL_len nu inF
  have hb := bothEnds_s (f := a.2.1) (l := a.2.2.1) hir hx
  rw [← ha.1, ha.2.1 i r hi, ha.2.2.1 i r hi, show (42 : Int32) = nI 42 from rfl, nI_mul, nI_add, Nat.mul_comm r.1 42] at hb
  rw [hb]
  rfl
theorem reasonAgainst_e {T C B R : Nat} (h1 : T ≤ B) (h2 : B < 6) (h3 : C ≤ R) (h4 : R < 7) (F : Nat) (nu inF : Nat → Int32) : fX_reasonAgainst F (nI T) (nI C) (nI B) (nI R) nu inF = fBoard_reason F (nI (7 * T + C)) (nI (7 * B + R)) nu inF := by
  have c1 : fX_checkRectangle (nI T) (nI C) (nI B) (nI R) = some () := by
    unfold fX_checkRectangle
    rw [if_neg (nI_pos (by omega)), if_neg (nI_nlt h1 (by omega)), if_neg (show ¬ (6 : Int32) ≤ nI B from nI_ge (b := 6) h2 (by decide)), if_neg (nI_pos (by omega)), if_neg (nI_nlt h3 (by omega)), if_pos (show nI R < (7 : Int32) from nI_lt (b := 7) h4 (by decide))]
  have c2 : ∀ a b : Nat, fX_cellAt (nI a) (nI b) = some (nI (7 * a + b)) := fun a b => by
    unfold fX_cellAt
    rw [show (7 : Int32) = nI 7 from rfl, nI_mul, nI_add, Nat.mul_comm a 7]
  unfold fX_reasonAgainst
  rw [c1, Option.bind_some, c2, Option.bind_some, c2, Option.bind_some]
  cases fBoard_reason F (nI (7 * T + C)) (nI (7 * B + R)) nu inF with
  | none => rfl
  | some v => rfl
/-- after a run: what is left, behind how many rounds -/
theorem leftFor_c (hF : 1200 < F) (hE : EV ef el ec) (hk : k < 42) (hc : fX_checkedCell x y = some (nI k)) {R : Nat} (hR : RT nu inF R) (c0 : Int32) (f0 l0 : Nat → Int32) (s0 : Nat → Int64) (o0 : Nat → Int32) (op0 nm0 : Int64) (lf0 : Nat → Int32) (rd0 : Int32) (is0 ia0 : Nat → Int64) : ∃ z, fX_leftFor F x y inF nu c0 ec ef f0 el l0 s0 o0 op0 nm0 lf0 rd0 is0 ia0 = some (nI ((XL nu inF).countP (lof nu (rit nu inF R) k)), z) := by
  obtain ⟨a, R', s1, a1, left1, ha, hR', -, hs, hl, e⟩ := xrun_s hF hE nu inF c0 f0 l0 s0 o0 op0 nm0 lf0 rd0 is0 ia0
  obtain rfl := RT_one hR hR'
  unfold fX_leftFor
  rw [hc, Option.bind_some, e, Option.bind_some, X_countLeftOf (by omega) ha hl hk, Option.bind_some]
  exact ⟨_, rfl⟩
theorem leftInTheEnd_e (hF : 1200 < F) (hE : EV ef el ec) {R : Nat} (hR : RT nu inF R) (c0 : Int32) (f0 l0 : Nat → Int32) (s0 : Nat → Int64) (o0 : Nat → Int32) (op0 nm0 : Int64) (lf0 : Nat → Int32) (rd0 : Int32) (is0 ia0 : Nat → Int64) : ∃ z, fX_leftInTheEnd F inF nu c0 ec ef f0 el l0 s0 o0 op0 nm0 lf0 rd0 is0 ia0 = some (nI ((XL nu inF).countP (rit nu inF R)), z) := by
  obtain ⟨a, R', s1, a1, left1, ha, hR', -, hs, hl, e⟩ := xrun_s hF hE nu inF c0 f0 l0 s0 o0 op0 nm0 lf0 rd0 is0 ia0
  obtain rfl := RT_one hR hR'
  unfold fX_leftInTheEnd
  rw [e, Option.bind_some, X_countLeft (by omega) hl, Option.bind_some]
  exact ⟨_, rfl⟩
theorem rounds_e (hF : 1200 < F) (hE : EV ef el ec) {R : Nat} (hR : RT nu inF R) (c0 : Int32) (f0 l0 : Nat → Int32) (s0 : Nat → Int64) (o0 : Nat → Int32) (op0 nm0 : Int64) (lf0 : Nat → Int32) (rd0 : Int32) (is0 ia0 : Nat → Int64) : ∃ z, fX_rounds F inF nu c0 ec ef f0 el l0 s0 o0 op0 nm0 lf0 rd0 is0 ia0 = some (nI R, z) ∧ R ≤ 588 := by
  obtain ⟨a, R', s1, a1, left1, ha, hR', h588, hs, hl, e⟩ := xrun_s hF hE nu inF c0 f0 l0 s0 o0 op0 nm0 lf0 rd0 is0 ia0
  obtain rfl := RT_one hR hR'
  unfold fX_rounds fSteps_countRounds
  rw [e, Option.bind_some, Option.bind_some]
  exact ⟨_, rfl, h588⟩
theorem isContradiction_e (hF : 1200 < F) (hE : EV ef el ec) {R : Nat} (hR : RT nu inF R) (c0 : Int32) (f0 l0 : Nat → Int32) (s0 : Nat → Int64) (o0 : Nat → Int32) (op0 nm0 : Int64) (lf0 : Nat → Int32) (rd0 : Int32) (is0 ia0 : Nat → Int64) : ∃ z, fX_isContradiction F inF nu c0 ec ef f0 el l0 s0 o0 op0 nm0 lf0 rd0 is0 ia0 = some (bI (con nu inF (rit nu inF R)), z) := by
  obtain ⟨a, R', s1, a1, left1, ha, hR', -, hs, hl, e⟩ := xrun_s hF hE nu inF c0 f0 l0 s0 o0 op0 nm0 lf0 rd0 is0 ia0
  obtain rfl := RT_one hR hR'
  unfold fX_isContradiction
  rw [e, Option.bind_some]
  simp only
  rw [X_con (by omega) hs, Option.bind_some]
  have ez : o_z (bI (con nu inF (rit nu inF R))) = some (bI (con nu inF (rit nu inF R))) := by
    unfold o_z
    exact if_pos (bI_01 _)
  rw [ez]
  exact ⟨_, rfl⟩
/-- the run of the steps, where there is no contradiction -/
theorem noContra_e (hF : 1200 < F) (hE : EV ef el ec) {R : Nat} (hR : RT nu inF R) (hcon : con nu inF (rit nu inF R) = false) (c0 : Int32) (f0 l0 : Nat → Int32) (s0 : Nat → Int64) (o0 : Nat → Int32) (op0 nm0 : Int64) (lf0 : Nat → Int32) (rd0 : Int32) (is0 ia0 : Nat → Int64) : ∃ (a : Int32 × (Nat → Int32) × (Nat → Int32) × (Nat → Int64) × (Nat → Int32)) (s1 a1 : Nat → Int64) (left1 : Nat → Int32), XI nu (XL nu inF) a ∧ LX (XL nu inF) (rit nu inF R) left1 ∧ fX_runWithoutContradiction F inF nu c0 ec ef f0 el l0 s0 o0 op0 nm0 lf0 rd0 is0 ia0 = some (a.1, a.2.1, a.2.2.1, a.2.2.2.1, a.2.2.2.2, cset (fun k => !decide (inF k ≠ 0)), cset (fun k => decide (nu k ≠ 0) && !decide (inF k ≠ 0)), left1, nI R, s1, a1) := by
  obtain ⟨a, R', s1, a1, left1, ha, hR', -, hs, hl, e⟩ := xrun_s hF hE nu inF c0 f0 l0 s0 o0 op0 nm0 lf0 rd0 is0 ia0
  obtain rfl := RT_one hR hR'
  refine ⟨a, s1, a1, left1, ha, hl, ?_⟩
  unfold fX_runWithoutContradiction
  rw [e, Option.bind_some]
  simp only
  rw [X_con (by omega) hs, Option.bind_some, hcon, bI_f, if_pos rfl]
theorem certain_e (hF : 1200 < F) (hE : EV ef el ec) {R : Nat} (hR : RT nu inF R) (hcon : con nu inF (rit nu inF R) = false) (c0 : Int32) (f0 l0 : Nat → Int32) (s0 : Nat → Int64) (o0 : Nat → Int32) (op0 nm0 : Int64) (lf0 : Nat → Int32) (rd0 : Int32) (is0 ia0 : Nat → Int64) : ∃ z, fX_certain F inF nu c0 ec ef f0 el l0 s0 o0 op0 nm0 lf0 rd0 is0 ia0 = some (nI (fb_ct (one nu inF (rit nu inF R)) 42), z) := by
  obtain ⟨a, s1, a1, left1, ha, hl, e⟩ := noContra_e hF hE hR hcon c0 f0 l0 s0 o0 op0 nm0 lf0 rd0 is0 ia0
  unfold fX_certain
  rw [e, Option.bind_some]
  simp only
  rw [X_countCertain (by omega) ha hl, Option.bind_some]
  exact ⟨_, rfl⟩
theorem hint_e (hF : 1200 < F) (hE : EV ef el ec) {R : Nat} (hR : RT nu inF R) (hcon : con nu inF (rit nu inF R) = false) (hpos : 0 < fb_ct (one nu inF (rit nu inF R)) 42) (c0 : Int32) (f0 l0 : Nat → Int32) (s0 : Nat → Int64) (o0 : Nat → Int32) (op0 nm0 : Int64) (lf0 : Nat → Int32) (rd0 : Int32) (is0 ia0 : Nat → Int64) : ∃ c z, c < 42 ∧ one nu inF (rit nu inF R) c = true ∧ fX_hint F inF nu c0 ec ef f0 el l0 s0 o0 op0 nm0 lf0 rd0 is0 ia0 = some (nI c, z) := by
  obtain ⟨a, s1, a1, left1, ha, hl, e⟩ := noContra_e hF hE hR hcon c0 f0 l0 s0 o0 op0 nm0 lf0 rd0 is0 ia0
  obtain ⟨j, hj, hj1⟩ := fb_ct_pos.mp hpos
  have hlt : fa_first (one nu inF (rit nu inF R)) 42 < 42 := by
    apply Classical.byContradiction
    intro c
    have := fa_first_no (one nu inF (rit nu inF R)) 42 j (by omega)
    rw [hj1] at this
    cases this
  unfold fX_hint
  rw [e, Option.bind_some]
  simp only
  rw [X_firstCertain (by omega) ha hl, Option.bind_some, if_pos (fun c => by
    have := nI_inj (by omega) (by decide) (show nI (fa_first (one nu inF (rit nu inF R)) 42) = nI 42 from c)
    omega)]
  exact ⟨_, _, hlt, fa_first_yes _ 42 hlt, rfl⟩
/-- ways -/
theorem waysByCells_e (hF : 588 < F) (hE : EV ef el ec) (h : FB nu inF fi la D) (c0 : Int32) (f0 l0 : Nat → Int32) (s0 : Nat → Int64) (o0 wn wi wf wl : Nat → Int32) (li0 wy0 : Int32) (ch0 : Nat → Int32) : ∃ z, fX_waysByCells F inF nu c0 ec ef f0 el l0 s0 o0 wn wi fi wf la wl li0 wy0 ch0 = some (nI (min 50 (WW nu inF (Tk inF))), z) := by
  obtain ⟨a, wn', wi', wf', wl', ch', ha, e, -, -⟩ := countWays_s hF hE (lim := 50) (by decide) (by decide) (fi := fi) (la := la) h.bit c0 f0 l0 s0 o0 wn wi wf wl li0 wy0 ch0
  unfold fX_waysByCells
  rw [show (50 : Int32) = nI 50 from rfl, e, Option.bind_some]
  exact ⟨_, rfl⟩
theorem waysByNumbers_e (hF : 588 < F) (hE : EV ef el ec) (nu inF : Nat → Int32) (c0 : Int32) (f0 l0 : Nat → Int32) (s0 : Nat → Int64) (o0 : Nat → Int32) (nn0 : Int64) (nw0 : Int32) (nc0 : Nat → Int32) : ∃ z, fX_waysByNumbers F inF nu c0 ec ef f0 el l0 s0 o0 nn0 nw0 nc0 = some (nI (min 50 (WW nu inF (Tk inF))), z) := by
  obtain ⟨a, nm, ch', ha, e⟩ := numWays_s hF hE c0 f0 l0 s0 o0 nn0 nw0 nc0 (nu := nu) (inF := inF)
  unfold fX_waysByNumbers
  rw [e, Option.bind_some]
  exact ⟨_, rfl⟩
theorem isUnique_e (hF : 588 < F) (hE : EV ef el ec) (h : FB nu inF fi la D) (c0 : Int32) (f0 l0 : Nat → Int32) (s0 : Nat → Int64) (o0 wn wi wf wl : Nat → Int32) (li0 wy0 : Int32) (ch0 : Nat → Int32) : ∃ z, fX_isUnique F inF nu c0 ec ef f0 el l0 s0 o0 wn wi fi wf la wl li0 wy0 ch0 = some (if WW nu inF (Tk inF) = 1 then 1 else 0, z) := by
  obtain ⟨a, wn', wi', wf', wl', ch', ha, e, -, -⟩ := countWays_s hF hE (lim := 2) (by decide) (by decide) (fi := fi) (la := la) h.bit c0 f0 l0 s0 o0 wn wi wf wl li0 wy0 ch0
  unfold fX_isUnique
  rw [show (2 : Int32) = nI 2 from rfl, e, Option.bind_some]
  simp only
  by_cases q : WW nu inF (Tk inF) = 1
  · rw [if_pos q, if_neg (not_not_intro (show nI (min 2 (WW nu inF (Tk inF))) = (1 : Int32) by rw [q]; rfl))]
    exact ⟨_, rfl⟩
  · rw [if_neg q, if_pos (fun c => q (by
      have := nI_inj (a := min 2 (WW nu inF (Tk inF))) (b := 1) (by omega) (by decide) c
      omega))]
    exact ⟨_, rfl⟩
/-- the first way: what its board holds -/
theorem head_ex (hw : WW nu inF (Tk inF) ≠ 0) : ∃ Z, (FL nu inF (Tk inF)).head? = some Z := by
  unfold WW at hw
  cases hl : FL nu inF (Tk inF) with
  | nil => rw [hl] at hw; exact absurd rfl hw
  | cons Z t => exact ⟨Z, rfl⟩
theorem head_mem {Z : List (Nat × Nat)} (hZ : (FL nu inF (Tk inF)).head? = some Z) : Z ∈ FL nu inF (Tk inF) := List.mem_of_head? hZ
theorem head_W {Z : List (Nat × Nat)} (hZ : (FL nu inF (Tk inF)).head? = some Z) : WW nu inF (Tk inF) ≠ 0 := by
  intro h
  have hm := head_mem hZ
  unfold WW at h
  rw [List.length_eq_zero_iff.mp h] at hm
  cases hm
theorem firstWay_e (hF : 588 < F) (hE : EV ef el ec) (h : FB nu inF fi la D) {Z : List (Nat × Nat)} (hZ : (FL nu inF (Tk inF)).head? = some Z) (c0 : Int32) (f0 l0 : Nat → Int32) (s0 : Nat → Int64) (o0 wn wi wf wl : Nat → Int32) (li0 wy0 : Int32) (ch0 : Nat → Int32) : ∃ (a : Int32 × (Nat → Int32) × (Nat → Int32) × (Nat → Int64) × (Nat → Int32)) (wn' wi' wf' wl' : Nat → Int32) (li' wy' : Int32) (ch' : Nat → Int32), (∀ k, k < 42 → wn' k = nu k) ∧ PL Z inF fi la wi' wf' wl' ∧ fX_findFirstWay F inF nu c0 ec ef f0 el l0 s0 o0 wn wi fi wf la wl li0 wy0 ch0 = some (a.1, a.2.1, a.2.2.1, a.2.2.2.1, a.2.2.2.2, wn', wi', wf', wl', li', wy', ch') := by
  obtain ⟨a, wn', wi', wf', wl', ch', ha, e, e2, e3⟩ := countWays_s hF hE (lim := 1) (by decide) (by decide) (fi := fi) (la := la) h.bit c0 f0 l0 s0 o0 wn wi wf wl li0 wy0 ch0
  have hw := head_W hZ
  have hm : min 1 (WW nu inF (Tk inF)) = 1 := by omega
  rw [hm] at e
  refine ⟨a, wn', wi', wf', wl', nI 1, nI 1, ch', e2, e3 Z hZ, ?_⟩
  unfold fX_findFirstWay
  rw [show (1 : Int32) = nI 1 from rfl, e, Option.bind_some]
  exact if_pos (show ¬ nI 1 = (0 : Int32) by decide)
/-- the rectangles of a way -/
theorem way_facts {Z : List (Nat × Nat)} (hZ : (FL nu inF (Tk inF)).head? = some Z) : (∀ r, r ∈ Z → RC r.1 r.2 ∧ OK nu inF r = true) ∧ Z.Pairwise DJ ∧ ∀ k, k < 42 → inF k = 0 → ∃ r, r ∈ Z ∧ inb r.1 r.2 k = true := by
  obtain ⟨h1, h2, h3⟩ := FL_CV _ (Tk inF) rfl (inB_Tk inF) Z (head_mem hZ)
  exact ⟨fun r hr => mem_XL.mp (h1 r hr).1, h2, fun k hk h0 => h3 k hk (tk_free hk h0)⟩
theorem way_all (h : FB nu inF fi la D) {Z : List (Nat × Nat)} (hZ : (FL nu inF (Tk inF)).head? = some Z) {k : Nat} (hk : k < 42) : ∃ r, r ∈ D ++ Z ∧ inb r.1 r.2 k = true ∧ (inF k = 1 → r ∈ D) := by
  rcases h.cell hk with ⟨e, -⟩ | ⟨e, r, hr, hi, -, -⟩
  · obtain ⟨r, hr, hi⟩ := (way_facts hZ).2.2 k hk e
    exact ⟨r, List.mem_append_right _ hr, hi, fun c => absurd (e.symm.trans c) (by decide)⟩
  · exact ⟨r, List.mem_append_left _ hr, hi, fun _ => hr⟩
theorem sizeInFirst_c (hF : 588 < F) (hE : EV ef el ec) (h : FB nu inF fi la D) {Z : List (Nat × Nat)} (hZ : (FL nu inF (Tk inF)).head? = some Z) (hk : k < 42) (hc : fX_checkedCell x y = some (nI k)) {r : Nat × Nat} (hr : r ∈ D ++ Z) (hi : inb r.1 r.2 k = true) (c0 : Int32) (f0 l0 : Nat → Int32) (s0 : Nat → Int64) (o0 wn wi wf wl : Nat → Int32) (li0 wy0 : Int32) (ch0 : Nat → Int32) : ∃ z, fX_sizeInFirst F x y inF nu c0 ec ef f0 el l0 s0 o0 wn wi fi wf la wl li0 wy0 ch0 = some (nI (sz r), z) := by
  obtain ⟨a, wn', wi', wf', wl', li', wy', ch', -, hP, e⟩ := firstWay_e hF hE h hZ c0 f0 l0 s0 o0 wn wi wf wl li0 wy0 ch0
  have hB := h.append (way_facts hZ).1 (way_facts hZ).2.1 hP
  obtain ⟨e1, e2, e3⟩ := (hB.2.2.2 k hk).1 r hr hi
  unfold fX_sizeInFirst fCellSearch_firstWay
  rw [hc, Option.bind_some, e, Option.bind_some, Option.bind_some]
  simp only
  rw [sizeOfField_s hk (hB.2.1 r hr).1 e2 e3, Option.bind_some]
  exact ⟨_, rfl⟩
theorem cornerInFirst_c (hF : 588 < F) (hE : EV ef el ec) (h : FB nu inF fi la D) {Z : List (Nat × Nat)} (hZ : (FL nu inF (Tk inF)).head? = some Z) (hk : k < 42) (hc : fX_checkedCell x y = some (nI k)) {r : Nat × Nat} (hr : r ∈ D ++ Z) (hi : inb r.1 r.2 k = true) (c0 : Int32) (f0 l0 : Nat → Int32) (s0 : Nat → Int64) (o0 wn wi wf wl : Nat → Int32) (li0 wy0 : Int32) (ch0 : Nat → Int32) : ∃ z, fX_cornerInFirst F x y inF nu c0 ec ef f0 el l0 s0 o0 wn wi fi wf la wl li0 wy0 ch0 = some (nI r.1, z) := by
  obtain ⟨a, wn', wi', wf', wl', li', wy', ch', -, hP, e⟩ := firstWay_e hF hE h hZ c0 f0 l0 s0 o0 wn wi wf wl li0 wy0 ch0
  have hB := h.append (way_facts hZ).1 (way_facts hZ).2.1 hP
  obtain ⟨e1, e2, e3⟩ := (hB.2.2.2 k hk).1 r hr hi
  unfold fX_cornerInFirst fCellSearch_firstWay
  rw [hc, Option.bind_some, e, Option.bind_some, Option.bind_some]
  simp only
  rw [firstOfField_s hk, e2, Option.bind_some]
  exact ⟨_, rfl⟩
end AS
