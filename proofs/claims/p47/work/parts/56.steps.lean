/-! THE MATHEMATICS: the rounds. Own text. -/
def bI (b : Bool) : Int32 := if b = true then 1 else 0
theorem bI_01 (b : Bool) : bI b = 0 ∨ bI b = 1 := by cases b <;> simp [bI]
theorem bI_t : bI true = 1 := rfl
theorem bI_f : bI false = 0 := rfl
theorem bI_0 {b : Bool} : bI b = 0 ↔ b = false := by cases b <;> simp [bI]
section D
variable (nu : Nat → Int32)
def Sm (l : List (Nat × Nat)) (Lf : Nat × Nat → Bool) (k j : Nat) : Bool := l.any (fun r => Lf r && (decide (own nu r = k) && inb r.1 r.2 j))
def Al (l : List (Nat × Nat)) (Lf : Nat × Nat → Bool) (k j : Nat) : Bool := l.all (fun r => !(Lf r && decide (own nu r = k)) || inb r.1 r.2 j)
def Out (l : List (Nat × Nat)) (Lf : Nat × Nat → Bool) (r : Nat × Nat) : Prop := (∃ j, j < 42 ∧ Sm nu l Lf (own nu r) j = true ∧ inb r.1 r.2 j = false ∧ ∀ k, k < 42 → k ≠ own nu r → Sm nu l Lf k j = false) ∨ ∃ k, k < 42 ∧ k ≠ own nu r ∧ (∃ j, j < 42 ∧ Sm nu l Lf k j = true) ∧ ∃ j, j < 42 ∧ inb r.1 r.2 j = true ∧ Al nu l Lf k j = true
noncomputable def outb (l : List (Nat × Nat)) (Lf : Nat × Nat → Bool) (r : Nat × Nat) : Bool := @decide (Out nu l Lf r) (Classical.propDecidable _)
noncomputable def nxt (l : List (Nat × Nat)) (Lf : Nat × Nat → Bool) (r : Nat × Nat) : Bool := Lf r && !outb nu l Lf r
noncomputable def mor (l : List (Nat × Nat)) (Lf : Nat × Nat → Bool) (t : List (Nat × Nat)) : Bool := t.any (fun r => Lf r && outb nu l Lf r)
end D
theorem outb_iff {nu : Nat → Int32} {l : List (Nat × Nat)} {Lf : Nat × Nat → Bool} {r : Nat × Nat} : outb nu l Lf r = true ↔ Out nu l Lf r := by
  unfold outb
  exact @decide_eq_true_iff _ (Classical.propDecidable _)
theorem Sm_snoc (nu : Nat → Int32) (l : List (Nat × Nat)) (Lf : Nat × Nat → Bool) (r : Nat × Nat) (k j : Nat) : Sm nu (l ++ [r]) Lf k j = (Sm nu l Lf k j || (Lf r && (decide (own nu r = k) && inb r.1 r.2 j))) := by
  unfold Sm
  rw [List.any_append]
  simp
theorem Al_snoc (nu : Nat → Int32) (l : List (Nat × Nat)) (Lf : Nat × Nat → Bool) (r : Nat × Nat) (k j : Nat) : Al nu (l ++ [r]) Lf k j = (Al nu l Lf k j && (!(Lf r && decide (own nu r = k)) || inb r.1 r.2 j)) := by
  unfold Al
  rw [List.all_append]
  simp
theorem Sm_iff {nu : Nat → Int32} {l : List (Nat × Nat)} {Lf : Nat × Nat → Bool} {k j : Nat} : Sm nu l Lf k j = true ↔ ∃ r, r ∈ l ∧ Lf r = true ∧ own nu r = k ∧ inb r.1 r.2 j = true := by
  unfold Sm
  rw [List.any_eq_true]
  constructor
  · rintro ⟨r, h1, h2⟩
    rw [Bool.and_eq_true, Bool.and_eq_true, decide_eq_true_eq] at h2
    exact ⟨r, h1, h2.1, h2.2.1, h2.2.2⟩
  · rintro ⟨r, h1, h2, h3, h4⟩
    exact ⟨r, h1, by rw [h2, h4, decide_eq_true h3]; rfl⟩
theorem Al_iff {nu : Nat → Int32} {l : List (Nat × Nat)} {Lf : Nat × Nat → Bool} {k j : Nat} : Al nu l Lf k j = true ↔ ∀ r, r ∈ l → Lf r = true → own nu r = k → inb r.1 r.2 j = true := by
  unfold Al
  rw [List.all_eq_true]
  constructor
  · intro h r h1 h2 h3
    have := h r h1
    rw [h2, decide_eq_true h3] at this
    simpa using this
  · intro h r h1
    by_cases q : Lf r = true ∧ own nu r = k
    · rw [h r h1 q.1 q.2, Bool.or_true]
    · have : (Lf r && decide (own nu r = k)) = false := by
        cases e : Lf r with
        | false => rfl
        | true =>
          rw [Bool.true_and]
          exact decide_eq_false (fun e2 => q ⟨e, e2⟩)
      rw [this]
      rfl
theorem Sm_perm {nu : Nat → Int32} {l t : List (Nat × Nat)} (h : l.Perm t) (Lf : Nat × Nat → Bool) (k j : Nat) : Sm nu l Lf k j = Sm nu t Lf k j := by
  rw [Bool.eq_iff_iff, Sm_iff, Sm_iff]
  exact ⟨fun ⟨r, h1, h2⟩ => ⟨r, h.mem_iff.mp h1, h2⟩, fun ⟨r, h1, h2⟩ => ⟨r, h.mem_iff.mpr h1, h2⟩⟩
theorem Al_perm {nu : Nat → Int32} {l t : List (Nat × Nat)} (h : l.Perm t) (Lf : Nat × Nat → Bool) (k j : Nat) : Al nu l Lf k j = Al nu t Lf k j := by
  rw [Bool.eq_iff_iff, Al_iff, Al_iff]
  exact ⟨fun g r h1 => g r (h.mem_iff.mpr h1), fun g r h1 => g r (h.mem_iff.mp h1)⟩
theorem mor_perm {nu : Nat → Int32} {l t : List (Nat × Nat)} (h : l.Perm t) (x : List (Nat × Nat)) (Lf : Nat × Nat → Bool) : mor nu x Lf l = mor nu x Lf t := by
  unfold mor
  rw [Bool.eq_iff_iff, List.any_eq_true, List.any_eq_true]
  exact ⟨fun ⟨r, h1, h2⟩ => ⟨r, h.mem_iff.mp h1, h2⟩, fun ⟨r, h1, h2⟩ => ⟨r, h.mem_iff.mpr h1, h2⟩⟩
theorem mor_snoc {nu : Nat → Int32} (x : List (Nat × Nat)) (Lf : Nat × Nat → Bool) (t : List (Nat × Nat)) (r : Nat × Nat) : mor nu x Lf (t ++ [r]) = (mor nu x Lf t || (Lf r && outb nu x Lf r)) := by
  unfold mor
  rw [List.any_append]
  simp
theorem nxt_of {nu : Nat → Int32} {x : List (Nat × Nat)} {Lf : Nat × Nat → Bool} (h : mor nu x Lf x = false) {r : Nat × Nat} (hr : r ∈ x) : nxt nu x Lf r = Lf r := by
  unfold nxt
  cases e : Lf r with
  | false => rfl
  | true =>
    cases e2 : outb nu x Lf r with
    | false => rfl
    | true =>
      have : mor nu x Lf x = true := by
        unfold mor
        rw [List.any_eq_true]
        exact ⟨r, hr, by rw [e, e2]; rfl⟩
      rw [h] at this
      cases this
theorem nxt_le {nu : Nat → Int32} {x : List (Nat × Nat)} {Lf : Nat × Nat → Bool} : ∀ t : List (Nat × Nat), t.countP (nxt nu x Lf) + (if mor nu x Lf t = true then 1 else 0) ≤ t.countP Lf
  | [] => by simp [mor]
  | r :: t => by
    have ih := nxt_le (nu := nu) (x := x) (Lf := Lf) t
    have hm : mor nu x Lf (r :: t) = ((Lf r && outb nu x Lf r) || mor nu x Lf t) := by
      unfold mor
      rw [List.any_cons]
    have e0 : nxt nu x Lf r = (Lf r && !outb nu x Lf r) := rfl
    rw [List.countP_cons, List.countP_cons, hm, e0]
    generalize t.countP (nxt nu x Lf) = A at *
    generalize t.countP Lf = B at *
    generalize mor nu x Lf t = C at *
    cases Lf r <;> cases outb nu x Lf r <;> cases C <;> simp at ih ⊢ <;> omega
/-! the class -/
theorem o_wrZ_b {n i : Nat} {f : Nat → Int32} {b : Bool} (h : i < n) (hn : n < 2 ^ 31) : o_wrZ n f (nI i) (bI b) = some (upd f i (bI b)) := o_wrZ_sb h hn (bI_01 b)
section G
variable {F : Nat} {nu inF : Nat → Int32} {Lf : Nat × Nat → Bool} {a : Int32 × (Nat → Int32) × (Nat → Int32) × (Nat → Int64) × (Nat → Int32)}
/-- the flags of the class: what is left; behind the list none is -/
def LX (l : List (Nat × Nat)) (Lf : Nat × Nat → Bool) (left : Nat → Int32) : Prop := AG l left (fun r => bI (Lf r)) ∧ ∀ i, l.length ≤ i → i < 588 → left i = 0
theorem X_look (hF : 588 < F) (ha : XI nu (XL nu inF) a) {left : Nat → Int32} (hl : LX (XL nu inF) Lf left) (s0 a0 : Nat → Int64) : ∃ s1 a1, (∀ k, k < 42 → s1 k = cset (Sm nu (XL nu inF) Lf k) ∧ a1 k = cset (fun j => Sm nu (XL nu inF) Lf k j && Al nu (XL nu inF) Lf k j)) ∧ fSteps_look F s0 a0 a.1 a.2.2.2.2 left a.2.2.2.1 = some (s1, a1) := by
  obtain ⟨h1, h2, h3, h4, h5⟩ := ha
  have hlen := XL_len nu inF
  obtain ⟨p, hp, ep⟩ := lp0 (F := F) 42 (by omega) (fun N i (p : (Nat → Int64) × (Nat → Int64)) => fSteps_look_L2 F N (nI i) p.1 p.2) (fun p => (nI 42, p)) (fun i p => ∀ k, k < i → p.1 k = 0 ∧ p.2 k = ALL) (a := (s0, a0)) (fun k hk => by omega)
    (fun i p hi hp => by
      refine ⟨(vp_updL p.1 i 0, vp_updL p.2 i ALL), fun k hk => ?_, fun N => ?_⟩
      · by_cases q : k = i
        · subst q; exact ⟨updL_at _ _ _, updL_at _ _ _⟩
        · have := hp k (by omega)
          exact ⟨(updL_off _ _ q).trans this.1, (updL_off _ _ q).trans this.2⟩
      · simp only [fSteps_look_L2, ge42 hi, if_false, o_wrJ_s hi (show 42 < 2 ^ 31 by decide), Option.bind_some, nI_1]
        rfl)
    (fun N p hp => by simp only [fSteps_look_L2, le42, if_true])
  obtain ⟨q, hq, eq⟩ := lp0 (F := F) 588 hF (fun N i (p : (Nat → Int64) × (Nat → Int64)) => fSteps_look_L32 F (nI (XL nu inF).length) a.2.2.2.2 left a.2.2.2.1 N (nI i) p.1 p.2) (fun p => (nI 588, p)) (fun i p => ∀ k, k < 42 → p.1 k = cset (Sm nu ((XL nu inF).take i) Lf k) ∧ p.2 k = cset (Al nu ((XL nu inF).take i) Lf k)) (a := p)
    (fun k hk => by
      obtain ⟨g1, g2⟩ := hp k hk
      rw [g1, g2, ALL_cs, List.take_zero]
      exact ⟨((cset_0 _).mpr (fun _ _ => rfl)).symm, rfl⟩)
    (fun i p hi hp => by
      have e1 := ge588 hi
      by_cases g : i < (XL nu inF).length
      · have hr : (XL nu inF)[i]? = some (XL nu inF)[i] := List.getElem?_eq_getElem g
        generalize (XL nu inF)[i] = r at hr
        obtain ⟨-, -, ho, -, -⟩ := XL_get hr
        have h5r : a.2.2.2.2 i = nI (own nu r) := h5 i r hr
        have e2 : o_rd 588 left (nI i) = some (bI (Lf r)) := by rw [o_rd_s hi (by decide), hl.1 i r hr]
        generalize hown : own nu r = o at ho h5r
        by_cases q : Lf r = true
        · refine ⟨(vp_updL p.1 o (p.1 o ||| cs r), vp_updL p.2 o (p.2 o &&& cs r)), fun k hk => ?_, fun N => ?_⟩
          · rw [List.take_succ, hr, Option.toList_some]
            by_cases q2 : k = o
            · subst q2
              obtain ⟨g1, g2⟩ := hp _ hk
              constructor
              · show vp_updL p.1 k (p.1 k ||| cs r) k = _
                rw [updL_at, g1]
                unfold cs
                rw [cset_or]
                exact cset_cong (fun j _ => by
                  rw [Sm_snoc, q, hown, decide_eq_true (rfl : k = k)]; rfl)
              · show vp_updL p.2 k (p.2 k &&& cs r) k = _
                rw [updL_at, g2]
                unfold cs
                rw [cset_and]
                exact cset_cong (fun j _ => by
                  rw [Al_snoc, q, hown, decide_eq_true (rfl : k = k)]; rfl)
            · obtain ⟨g1, g2⟩ := hp k hk
              constructor
              · show vp_updL p.1 o (p.1 o ||| cs r) k = _
                rw [updL_off _ _ q2, g1]
                exact cset_cong (fun j _ => by
                  rw [Sm_snoc, hown, decide_eq_false (fun e => q2 e.symm)]; simp)
              · show vp_updL p.2 o (p.2 o &&& cs r) k = _
                rw [updL_off _ _ q2, g2]
                exact cset_cong (fun j _ => by
                  rw [Al_snoc, hown, decide_eq_false (fun e => q2 e.symm)]; simp)
          · simp only [fSteps_look_L32, e1, if_false, ownerAt_s g hlen, cellsAt_s g hlen, h5r, h4 i r hr, e2, q, bI_t, Option.bind_some, show ¬ (1 : Int32) = 0 by decide, fX_isCell_s ho, o_rd_s ho (show 42 < 2 ^ 31 by decide), o_wrJ_s ho (show 42 < 2 ^ 31 by decide), nI_1]
        · refine ⟨p, fun k hk => ?_, fun N => ?_⟩
          · rw [List.take_succ, hr, Option.toList_some]
            obtain ⟨g1, g2⟩ := hp k hk
            refine ⟨g1.trans (cset_cong (fun j _ => ?_)), g2.trans (cset_cong (fun j _ => ?_))⟩
            · show _ = Sm nu (_ ++ [r]) Lf _ j
              rw [Sm_snoc, ts_nt q]; simp
            · show _ = Al nu (_ ++ [r]) Lf _ j
              rw [Al_snoc, ts_nt q]; simp
          · simp only [fSteps_look_L32, e1, if_false, ownerAt_s g hlen, h5r, e2, ts_nt q, bI_f, Option.bind_some, if_true, nI_1]
      · refine ⟨p, fun k hk => ?_, fun N => ?_⟩
        · rw [List.take_of_length_le (by omega)]
          have := hp k hk
          rw [List.take_of_length_le (by omega)] at this
          exact this
        · have e2 : o_rd 588 left (nI i) = some 0 := by rw [o_rd_s hi (by decide), hl.2 i (by omega) hi]
          simp only [fSteps_look_L32, e1, if_false, ownerAt_o (show (XL nu inF).length ≤ i by omega) (by omega), e2, Option.bind_some, if_true, nI_1])
    (fun N p hp => by simp only [fSteps_look_L32, show (588 : Int32) ≤ nI 588 from Int32.le_refl _, if_true])
  obtain ⟨z, hz, ez⟩ := lp0 (F := F) 42 (by omega) (fun N i (z : Nat → Int64) => fSteps_look_L106 F q.1 N (nI i) z) (fun z => (nI 42, z)) (fun i z => ∀ k, k < 42 → z k = if k < i then q.2 k &&& q.1 k else q.2 k) (a := q.2) (fun k hk => by rw [if_neg (by omega)])
    (fun i z hi hz => by
      refine ⟨vp_updL z i (q.2 i &&& q.1 i), fun k hk => ?_, fun N => ?_⟩
      · by_cases g : k = i
        · subst g; rw [updL_at, if_pos (by omega)]
        · rw [updL_off _ _ g, hz k hk]
          by_cases g2 : k < i
          · rw [if_pos g2, if_pos (by omega)]
          · rw [if_neg g2, if_neg (by omega)]
      · have := hz i hi
        rw [if_neg (by omega)] at this
        simp only [fSteps_look_L106, ge42 hi, if_false, o_rd_s hi (show 42 < 2 ^ 31 by decide), o_wrJ_s hi (show 42 < 2 ^ 31 by decide), this, Option.bind_some, nI_1])
    (fun N z hz => by simp only [fSteps_look_L106, le42, if_true])
  refine ⟨q.1, z, fun k hk => ?_, ?_⟩
  · obtain ⟨g1, g2⟩ := hq k hk
    rw [List.take_of_length_le hlen] at g1 g2
    refine ⟨g1, ?_⟩
    rw [hz k hk, if_pos hk, g1, g2, cset_and]
    exact cset_cong (fun j _ => Bool.and_comm _ _)
  · unfold fSteps_look
    try rw [nI_0] at ep
    try rw [nI_0] at eq
    try rw [nI_0] at ez
    rw [h1, ep, Option.bind_some, eq, Option.bind_some, ez]
    rfl
theorem X_justOne (hF : 42 < F) {s : Nat → Int64} {p : Nat → Nat → Bool} (hs : ∀ k, k < 42 → s k = cset (p k)) : fSteps_inJustOne F s = some (cset (fun j => decide (fb_ct (fun k => p k j) 42 = 1))) := by
  obtain ⟨x, hx, e⟩ := lp0 (F := F) 42 hF (fun N i (x : Int64 × Int64) => fSteps_inJustOne_L7 F s N x.1 x.2 (nI i)) (fun x => (x.1, x.2, nI 42)) (fun i x => x.1 = cset (fun j => decide (0 < fb_ct (fun k => p k j) i)) ∧ x.2 = cset (fun j => decide (1 < fb_ct (fun k => p k j) i))) (a := (0, 0)) ⟨((cset_0 _).mpr (fun k _ => rfl)).symm, ((cset_0 _).mpr (fun k _ => rfl)).symm⟩
    (fun i x hi hx => by
      obtain ⟨x1, x2⟩ := x
      obtain ⟨g1, g2⟩ := hx
      simp only at g1 g2
      subst g1
      subst g2
      refine ⟨(cset (fun j => decide (0 < fb_ct (fun k => p k j) i)) ||| s i, cset (fun j => decide (1 < fb_ct (fun k => p k j) i)) ||| (cset (fun j => decide (0 < fb_ct (fun k => p k j) i)) &&& s i)), ⟨?_, ?_⟩, fun N => ?_⟩
      · simp only [hs i hi, cset_or]
        refine cset_cong (fun j _ => ?_)
        rw [fb_ct_succ]
        cases p i j <;> simp
      · simp only [hs i hi, cset_and, cset_or]
        refine cset_cong (fun j _ => ?_)
        rw [fb_ct_succ]
        cases p i j
        · simp
        · simp
          by_cases q : 1 < fb_ct (fun k => p k j) i
          · simp [q]; omega
          · by_cases q2 : 0 < fb_ct (fun k => p k j) i
            · simp [q2]
            · simp [q2]; omega
      · simp only [fSteps_inJustOne_L7, ge42 hi, if_false, o_rd_s hi (show 42 < 2 ^ 31 by decide), Option.bind_some, nI_1])
    (fun N x hx => by simp only [fSteps_inJustOne_L7, le42, if_true])
  unfold fSteps_inJustOne
  try rw [nI_0] at e
  rw [e, Option.bind_some, hx.1, hx.2, and_not]
  refine congrArg some (cset_cong (fun j hj => ?_))
  rw [tb_cset' _ hj]
  generalize fb_ct (fun k => p k j) 42 = c
  by_cases q : c = 1
  · subst q; rfl
  · rw [decide_eq_false q]
    by_cases q2 : 0 < c
    · rw [decide_eq_true q2, decide_eq_true (show 1 < c by omega)]; rfl
    · rw [decide_eq_false q2]; rfl
theorem X_any (hF : 42 < F) {s : Nat → Int64} {p : Nat → Nat → Bool} (hs : ∀ k, k < 42 → s k = cset (p k)) : fSteps_inAny F s = some (cset (fun j => decide (0 < fb_ct (fun k => p k j) 42))) := by
  obtain ⟨x, hx, e⟩ := lp0 (F := F) 42 hF (fun N i (x : Int64) => fSteps_inAny_L4 F s N x (nI i)) (fun x => (x, nI 42)) (fun i x => x = cset (fun j => decide (0 < fb_ct (fun k => p k j) i))) (a := 0) ((cset_0 _).mpr (fun k _ => rfl)).symm
    (fun i x hi hx => by
      subst hx
      refine ⟨cset (fun j => decide (0 < fb_ct (fun k => p k j) i)) ||| s i, ?_, fun N => ?_⟩
      · simp only [hs i hi, cset_or]
        refine cset_cong (fun j _ => ?_)
        rw [fb_ct_succ]
        cases p i j <;> simp
      · simp only [fSteps_inAny_L4, ge42 hi, if_false, o_rd_s hi (show 42 < 2 ^ 31 by decide), Option.bind_some, nI_1])
    (fun N x hx => by simp only [fSteps_inAny_L4, le42, if_true])
  unfold fSteps_inAny
  try rw [nI_0] at e
  rw [e, Option.bind_some, hx]
/-- what the class asks of one rectangle is what the document says -/
theorem X_out1 {l : List (Nat × Nat)} {r : Nat × Nat} (ho : own nu r < 42) : ((cset (fun j => decide (fb_ct (fun k => Sm nu l Lf k j) 42 = 1)) &&& cset (Sm nu l Lf (own nu r))) &&& (cs r ^^^ (-1))) = 0 ↔ ¬ ∃ j, j < 42 ∧ Sm nu l Lf (own nu r) j = true ∧ inb r.1 r.2 j = false ∧ ∀ k, k < 42 → k ≠ own nu r → Sm nu l Lf k j = false := by
  rw [cset_and, and_not, cset_0]
  constructor
  · rintro h ⟨j, hj, g1, g2, g3⟩
    have := h j hj
    have g4 : fb_ct (fun k => Sm nu l Lf k j) 42 = 1 := (ct_one_of (p := fun k => Sm nu l Lf k j) ho g1 (fun k hk e => by
      apply Classical.byContradiction
      intro c
      rw [g3 k hk c] at e
      cases e)).1
    rw [g1, decide_eq_true g4, tb_cs hj, g2] at this
    cases this
  · intro h j hj
    apply Classical.byContradiction
    intro c
    have c := ts_nf c
    rw [Bool.and_eq_true, Bool.and_eq_true, decide_eq_true_eq, tb_cs hj, Bool.not_eq_true'] at c
    obtain ⟨⟨c1, c2⟩, c3⟩ := c
    obtain ⟨-, -, c4⟩ := ct_one c1
    refine h ⟨j, hj, c2, c3, fun k hk hne => ?_⟩
    cases e : Sm nu l Lf k j with
    | false => rfl
    | true => exact absurd ((c4 k hk e).trans (c4 _ ho c2).symm) hne
theorem SmAl {l : List (Nat × Nat)} {k j : Nat} (h : ∃ j, j < 42 ∧ Sm nu l Lf k j = true) (h2 : Al nu l Lf k j = true) : Sm nu l Lf k j = true := by
  obtain ⟨i, -, hi⟩ := h
  obtain ⟨r, g1, g2, g3, -⟩ := Sm_iff.mp hi
  exact Sm_iff.mpr ⟨r, g1, g2, g3, Al_iff.mp h2 r g1 g2 g3⟩
theorem X_out2 {l : List (Nat × Nat)} {r : Nat × Nat} (ho : own nu r < 42) : ((cset (fun j => decide (0 < fb_ct (fun k => Sm nu l Lf k j && Al nu l Lf k j) 42)) &&& ((cset (fun j => decide (fb_ct (fun k => Sm nu l Lf k j && Al nu l Lf k j) 42 = 1)) &&& cset (fun j => Sm nu l Lf (own nu r) j && Al nu l Lf (own nu r) j)) ^^^ (-1))) &&& cs r) = 0 ↔ ¬ ∃ k, k < 42 ∧ k ≠ own nu r ∧ (∃ j, j < 42 ∧ Sm nu l Lf k j = true) ∧ ∃ j, j < 42 ∧ inb r.1 r.2 j = true ∧ Al nu l Lf k j = true := by
  unfold cs
  rw [cset_and, and_not, cset_and, cset_0]
  constructor
  · rintro h ⟨k, hk, g1, g2, j, hj, g3, g4⟩
    have := h j hj
    have g5 : (Sm nu l Lf k j && Al nu l Lf k j) = true := by rw [SmAl g2 g4, g4]; rfl
    have g6 : 0 < fb_ct (fun k => Sm nu l Lf k j && Al nu l Lf k j) 42 := fb_ct_pos.mpr ⟨k, hk, g5⟩
    rw [decide_eq_true g6, g3, tb_cset' _ hj] at this
    simp only [Bool.true_and, Bool.and_true, Bool.not_eq_false'] at this
    rw [Bool.and_eq_true, decide_eq_true_eq] at this
    obtain ⟨-, -, c4⟩ := ct_one this.1
    exact g1 ((c4 k hk g5).trans (c4 _ ho this.2).symm)
  · intro h j hj
    apply Classical.byContradiction
    intro c
    have c := ts_nf c
    rw [Bool.and_eq_true, Bool.and_eq_true, decide_eq_true_eq, Bool.not_eq_true', tb_cset' _ hj] at c
    obtain ⟨⟨c1, c2⟩, c3⟩ := c
    have : ∃ k, k < 42 ∧ k ≠ own nu r ∧ (Sm nu l Lf k j && Al nu l Lf k j) = true := by
      apply Classical.byContradiction
      intro c5
      have hu : ∀ k, k < 42 → (Sm nu l Lf k j && Al nu l Lf k j) = true → k = own nu r := fun k hk e => Classical.byContradiction (fun q => c5 ⟨k, hk, q, e⟩)
      obtain ⟨k, hk, e⟩ := fb_ct_pos.mp c1
      have ek := (hu k hk e).symm
      subst ek
      have := (ct_one_of (p := fun k => Sm nu l Lf k j && Al nu l Lf k j) hk e hu).1
      rw [decide_eq_true this, e] at c2
      cases c2
    obtain ⟨k, hk, hne, e⟩ := this
    rw [Bool.and_eq_true] at e
    exact h ⟨k, hk, hne, ⟨j, hj, e.1⟩, j, hj, c3, e.2⟩
theorem X_ruleOut (hF : 588 < F) (ha : XI nu (XL nu inF) a) {left : Nat → Int32} (hl : LX (XL nu inF) Lf left) (s0 a0 : Nat → Int64) : ∃ s1 a1 left', (∀ k, k < 42 → s1 k = cset (Sm nu (XL nu inF) Lf k)) ∧ LX (XL nu inF) (nxt nu (XL nu inF) Lf) left' ∧ fSteps_ruleOut F s0 a0 a.1 a.2.2.2.2 left a.2.2.2.1 = some (bI (mor nu (XL nu inF) Lf (XL nu inF)), s1, a1, left') := by
  obtain ⟨s1, a1, hs, e0⟩ := X_look hF ha hl s0 a0
  have hlen := XL_len nu inF
  have e2 := X_justOne (F := F) (by omega) (fun k hk => (hs k hk).1)
  have e3 := X_justOne (F := F) (by omega) (fun k hk => (hs k hk).2)
  have e4 := X_any (F := F) (by omega) (fun k hk => (hs k hk).2)
  obtain ⟨h1, h2, h3, h4, h5⟩ := ha
  obtain ⟨x, ⟨hx1, hx2, hx3⟩, e5⟩ := lp0 (F := F) 588 hF (fun N i (x : Int32 × (Nat → Int32)) => fSteps_ruleOut_L35 F (cset (fun j => decide (fb_ct (fun k => Sm nu (XL nu inF) Lf k j) 42 = 1))) (cset (fun j => decide (fb_ct (fun k => Sm nu (XL nu inF) Lf k j && Al nu (XL nu inF) Lf k j) 42 = 1))) (cset (fun j => decide (0 < fb_ct (fun k => Sm nu (XL nu inF) Lf k j && Al nu (XL nu inF) Lf k j) 42))) s1 a1 a.1 a.2.2.2.2 a.2.2.2.1 N x.1 (nI i) x.2) (fun x => (x.1, nI 588, x.2)) (fun i x => x.1 = bI (mor nu (XL nu inF) Lf ((XL nu inF).take i)) ∧ (∀ j r, (XL nu inF)[j]? = some r → x.2 j = bI (if j < i then nxt nu (XL nu inF) Lf r else Lf r)) ∧ ∀ j, (XL nu inF).length ≤ j → j < 588 → x.2 j = 0) (a := ((0 : Int32), left))
    ⟨rfl, fun j r hr => by rw [if_neg (by omega)]; exact hl.1 j r hr, hl.2⟩
    (fun i x hi hx => by
      have e1 := ge588 hi
      obtain ⟨c, lf⟩ := x
      obtain ⟨g1, g2, g3⟩ := hx
      simp only at g1 g2 g3
      subst g1
      by_cases g : i < (XL nu inF).length
      · have hr : (XL nu inF)[i]? = some (XL nu inF)[i] := List.getElem?_eq_getElem g
        generalize (XL nu inF)[i] = r at hr
        obtain ⟨-, -, ho, -, -⟩ := XL_get hr
        have e6 : o_rd 588 lf (nI i) = some (bI (Lf r)) := by rw [o_rd_s hi (by decide), g2 i r hr, if_neg (by omega)]
        have p1 := X_out1 (nu := nu) (Lf := Lf) (l := XL nu inF) (r := r) ho
        have p2 := X_out2 (nu := nu) (Lf := Lf) (l := XL nu inF) (r := r) ho
        have hstep : ∀ lf' : Nat → Int32, lf' i = bI (nxt nu (XL nu inF) Lf r) → (∀ j, j ≠ i → lf' j = lf j) → (∀ j r, (XL nu inF)[j]? = some r → lf' j = bI (if j < i + 1 then nxt nu (XL nu inF) Lf r else Lf r)) ∧ ∀ j, (XL nu inF).length ≤ j → j < 588 → lf' j = 0 := fun lf' w1 w2 => by
          refine ⟨fun j r' hr' => ?_, fun j hj hj2 => ?_⟩
          · by_cases q : j = i
            · subst q
              rw [hr] at hr'
              rw [w1, if_pos (by omega), Option.some.inj hr']
            · rw [w2 j q, g2 j r' hr']
              by_cases q2 : j < i
              · rw [if_pos q2, if_pos (by omega)]
              · rw [if_neg q2, if_neg (by omega)]
          · rw [w2 j (by omega)]
            exact g3 j hj hj2
        by_cases q : Lf r = true
        · by_cases q1 : ∃ j, j < 42 ∧ Sm nu (XL nu inF) Lf (own nu r) j = true ∧ inb r.1 r.2 j = false ∧ ∀ k, k < 42 → k ≠ own nu r → Sm nu (XL nu inF) Lf k j = false
          · have hout : outb nu (XL nu inF) Lf r = true := outb_iff.mpr (Or.inl q1)
            have p3 := (not_congr p1).mpr (not_not_intro q1)
            refine ⟨(1, upd lf i 0), ⟨?_, hstep _ ?_ (fun j hj => upd_off _ _ hj)⟩, fun N => ?_⟩
            · rw [List.take_succ, hr, Option.toList_some]
              rw [mor_snoc, q, hout, Bool.and_self, Bool.or_true]
              rfl
            · show upd lf i 0 i = _
              rw [upd_at]
              unfold nxt
              rw [hout, q]
              rfl
            · simp only [fSteps_ruleOut_L35, e1, if_false, h1, ownerAt_s g hlen, cellsAt_s g hlen, h5 i r hr, h4 i r hr, e6, q, bI_t, Option.bind_some, show ¬ (1 : Int32) = 0 by decide, fX_isCell_s ho, o_rd_s ho (show 42 < 2 ^ 31 by decide), (hs _ ho).1, p3, not_false_eq_true, if_true, o_wrZ_s0 hi (show 588 < 2 ^ 31 by decide), nI_1]
          · have p3 := p1.mpr q1
            by_cases q2 : ∃ k, k < 42 ∧ k ≠ own nu r ∧ (∃ j, j < 42 ∧ Sm nu (XL nu inF) Lf k j = true) ∧ ∃ j, j < 42 ∧ inb r.1 r.2 j = true ∧ Al nu (XL nu inF) Lf k j = true
            · have hout : outb nu (XL nu inF) Lf r = true := outb_iff.mpr (Or.inr q2)
              have p4 := (not_congr p2).mpr (not_not_intro q2)
              refine ⟨(1, upd lf i 0), ⟨?_, hstep _ ?_ (fun j hj => upd_off _ _ hj)⟩, fun N => ?_⟩
              · rw [List.take_succ, hr, Option.toList_some]
                rw [mor_snoc, q, hout, Bool.and_self, Bool.or_true]
                rfl
              · show upd lf i 0 i = _
                rw [upd_at]
                unfold nxt
                rw [hout, q]
                rfl
              · simp only [fSteps_ruleOut_L35, e1, if_false, h1, ownerAt_s g hlen, cellsAt_s g hlen, h5 i r hr, h4 i r hr, e6, q, bI_t, Option.bind_some, show ¬ (1 : Int32) = 0 by decide, fX_isCell_s ho, o_rd_s ho (show 42 < 2 ^ 31 by decide), (hs _ ho).1, (hs _ ho).2, p3, p4, not_true_eq_false, if_true, o_wrZ_s0 hi (show 588 < 2 ^ 31 by decide), nI_1]
            · have p4 := p2.mpr q2
              have hout : outb nu (XL nu inF) Lf r = false := ts_nt (fun e => by
                rcases outb_iff.mp e with h | h
                · exact q1 h
                · exact q2 h)
              refine ⟨(bI (mor nu (XL nu inF) Lf ((XL nu inF).take i)), lf), ⟨?_, hstep _ ?_ (fun j hj => rfl)⟩, fun N => ?_⟩
              · rw [List.take_succ, hr, Option.toList_some]
                rw [mor_snoc, hout, Bool.and_false, Bool.or_false]
              · show lf i = _
                rw [g2 i r hr, if_neg (by omega)]
                unfold nxt
                rw [hout, Bool.not_false, Bool.and_true]
              · simp only [fSteps_ruleOut_L35, e1, if_false, h1, ownerAt_s g hlen, cellsAt_s g hlen, h5 i r hr, h4 i r hr, e6, q, bI_t, Option.bind_some, show ¬ (1 : Int32) = 0 by decide, fX_isCell_s ho, o_rd_s ho (show 42 < 2 ^ 31 by decide), (hs _ ho).1, (hs _ ho).2, p3, p4, not_true_eq_false, if_true, nI_1]
        · refine ⟨(bI (mor nu (XL nu inF) Lf ((XL nu inF).take i)), lf), ⟨?_, hstep _ ?_ (fun j hj => rfl)⟩, fun N => ?_⟩
          · rw [List.take_succ, hr, Option.toList_some]
            rw [mor_snoc, ts_nt q, Bool.false_and, Bool.or_false]
          · show lf i = _
            rw [g2 i r hr, if_neg (by omega)]
            unfold nxt
            rw [ts_nt q]
            rfl
          · simp only [fSteps_ruleOut_L35, e1, if_false, h1, ownerAt_s g hlen, h5 i r hr, e6, ts_nt q, bI_f, Option.bind_some, if_true, nI_1]
      · refine ⟨(bI (mor nu (XL nu inF) Lf ((XL nu inF).take i)), lf), ⟨?_, fun j r hr => ?_, g3⟩, fun N => ?_⟩
        · rw [List.take_of_length_le (show (XL nu inF).length ≤ i by omega), List.take_of_length_le (show (XL nu inF).length ≤ i + 1 by omega)]
        · have := ts_lt hr
          show lf j = _
          rw [g2 j r hr, if_pos (by omega), if_pos (by omega)]
        · have e6 : o_rd 588 lf (nI i) = some 0 := by rw [o_rd_s hi (by decide), g3 i (by omega) hi]
          simp only [fSteps_ruleOut_L35, e1, if_false, h1, ownerAt_o (show (XL nu inF).length ≤ i by omega) (by omega), e6, Option.bind_some, if_true, nI_1])
    (fun N x hx => by simp only [fSteps_ruleOut_L35, show (588 : Int32) ≤ nI 588 from Int32.le_refl _, if_true])
  refine ⟨s1, a1, x.2, fun k hk => (hs k hk).1, ⟨fun j r hr => ?_, hx3⟩, ?_⟩
  · rw [hx2 j r hr, if_pos (by have := ts_lt hr; omega)]
  · unfold fSteps_ruleOut
    rw [e0, Option.bind_some, e2, Option.bind_some, e3, Option.bind_some, e4, Option.bind_some]
    rw [show (fSteps_ruleOut_L35 F _ _ _ s1 a1 a.1 a.2.2.2.2 a.2.2.2.1 F 0 0 left) = _ from e5, Option.bind_some, hx1, List.take_of_length_le hlen]
    cases mor nu (XL nu inF) Lf (XL nu inF) <;> rfl
theorem cnt588 (nu inF : Nat → Int32) (Lf : Nat × Nat → Bool) : (XL nu inF).countP Lf ≤ 588 := Nat.le_trans (List.countP_le_length) (XL_len nu inF)
end G
