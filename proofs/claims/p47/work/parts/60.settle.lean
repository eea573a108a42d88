/-! THE MATHEMATICS: several fields drawn; those that are certain. Own text. -/
/-- the class's board with the fields of a list drawn -/
def PL (C : List (Nat × Nat)) (inF fi la i' f' l' : Nat → Int32) : Prop := ∀ k, k < 42 → (∀ r, r ∈ C → inb r.1 r.2 k = true → i' k = 1 ∧ f' k = nI r.1 ∧ l' k = nI r.2) ∧ ((∀ r, r ∈ C → inb r.1 r.2 k = false) → i' k = inF k ∧ f' k = fi k ∧ l' k = la k)
/-- the reference's row with the fields of a list drawn -/
def DL (C : List (Nat × Nat)) (s s' : Nat → Int32) : Prop := (∀ k, k < 42 → (∀ r, r ∈ C → inb r.1 r.2 k = true → s' (42 + k) = nI (r.1 + 1)) ∧ ((∀ r, r ∈ C → inb r.1 r.2 k = false) → s' (42 + k) = s (42 + k))) ∧ ∀ k, k < 42 → s' k = s k
theorem PL.nil (inF fi la : Nat → Int32) : PL [] inF fi la inF fi la := fun k hk => ⟨fun r hr => (by cases hr), fun _ => ⟨rfl, rfl, rfl⟩⟩
theorem DL.nil (s : Nat → Int32) : DL [] s s := ⟨fun k hk => ⟨fun r hr => (by cases hr), fun _ => rfl⟩, fun _ _ => rfl⟩
def DJ (r r' : Nat × Nat) : Prop := ∀ k, k < 42 → ¬ (inb r.1 r.2 k = true ∧ inb r'.1 r'.2 k = true)
theorem PL.snoc {C : List (Nat × Nat)} {inF fi la i' f' l' i2 f2 l2 : Nat → Int32} (h : PL C inF fi la i' f' l') {r : Nat × Nat} (hd : ∀ r', r' ∈ C → DJ r' r) (hX : ∀ k, k < 42 → (i2 k = if inb r.1 r.2 k = true then 1 else i' k) ∧ (f2 k = if inb r.1 r.2 k = true then nI r.1 else f' k) ∧ (l2 k = if inb r.1 r.2 k = true then nI r.2 else l' k)) : PL (C ++ [r]) inF fi la i2 f2 l2 := fun k hk => by
  obtain ⟨h1, h2⟩ := h k hk
  obtain ⟨x1, x2, x3⟩ := hX k hk
  refine ⟨fun r' hr' hin => ?_, fun hn => ?_⟩
  · rcases List.mem_append.mp hr' with hr' | hr'
    · have hnr : ¬ inb r.1 r.2 k = true := fun e => hd r' hr' k hk ⟨hin, e⟩
      rw [if_neg hnr] at x1 x2 x3
      rw [x1, x2, x3]
      exact h1 r' hr' hin
    · have e := List.mem_singleton.mp hr'
      subst e
      rw [if_pos hin] at x1 x2 x3
      exact ⟨x1, x2, x3⟩
  · have hnr : ¬ inb r.1 r.2 k = true := fun e => by
      rw [hn r (List.mem_append.mpr (Or.inr (List.mem_singleton.mpr rfl)))] at e
      cases e
    rw [if_neg hnr] at x1 x2 x3
    rw [x1, x2, x3]
    exact h2 (fun r' hr' => hn r' (List.mem_append.mpr (Or.inl hr')))
theorem DL.snoc {C : List (Nat × Nat)} {s s' s2 : Nat → Int32} (h : DL C s s') {r : Nat × Nat} (hd : ∀ r', r' ∈ C → DJ r' r) (hM : ∀ k, k < 42 → s2 (42 + k) = if inb r.1 r.2 k = true then nI (r.1 + 1) else s' (42 + k)) (hM0 : ∀ k, (k < 42 ∨ 84 ≤ k) → s2 k = s' k) : DL (C ++ [r]) s s2 := by
  refine ⟨fun k hk => ?_, fun k hk => by rw [hM0 k (Or.inl hk)]; exact h.2 k hk⟩
  obtain ⟨h1, h2⟩ := h.1 k hk
  have x1 := hM k hk
  refine ⟨fun r' hr' hin => ?_, fun hn => ?_⟩
  · rcases List.mem_append.mp hr' with hr' | hr'
    · have hnr : ¬ inb r.1 r.2 k = true := fun e => hd r' hr' k hk ⟨hin, e⟩
      rw [if_neg hnr] at x1
      rw [x1]
      exact h1 r' hr' hin
    · have e := List.mem_singleton.mp hr'
      subst e
      rw [if_pos hin] at x1
      exact x1
  · have hnr : ¬ inb r.1 r.2 k = true := fun e => by
      rw [hn r (List.mem_append.mpr (Or.inr (List.mem_singleton.mpr rfl)))] at e
      cases e
    rw [if_neg hnr] at x1
    rw [x1]
    exact h2 (fun r' hr' => hn r' (List.mem_append.mpr (Or.inl hr')))
/-- fields drawn where there are none: the two agree again -/
theorem BR.many {nu inF fi la s i' f' l' s' : Nat → Int32} (h : BR nu inF fi la s 0) {C C' : List (Nat × Nat)} (hC : ∀ r, r ∈ C ↔ r ∈ C') (hr : ∀ r, r ∈ C → RC r.1 r.2 ∧ ∀ k, k < 42 → inb r.1 r.2 k = true → inF k = 0) (hP : PL C inF fi la i' f' l') (hD : DL C' s s') : BR nu i' f' l' s' 0 := fun k hk => by
  obtain ⟨hv, hs, hf⟩ := h k hk
  obtain ⟨p1, p2⟩ := hP k hk
  obtain ⟨d1, d2⟩ := hD.1 k hk
  rw [Nat.zero_add] at hs hf
  refine ⟨hv, by rw [Nat.zero_add, hD.2 k hk]; exact hs, ?_⟩
  rw [Nat.zero_add]
  by_cases q : ∃ r, r ∈ C ∧ inb r.1 r.2 k = true
  · obtain ⟨r, hm, hin⟩ := q
    obtain ⟨x1, x2, x3⟩ := p1 r hm hin
    refine Or.inr ⟨x1, r.1, r.2, (hr r hm).1, inb_iff.mp hin, x2, x3, d1 r ((hC r).mp hm) hin, fun j hj => ?_⟩
    exact (hP j (IN_lt (hr r hm).1 hj)).1 r hm (inb_iff.mpr hj)
  · have hn : ∀ r, r ∈ C → inb r.1 r.2 k = false := fun r hm => ts_nt (fun e => q ⟨r, hm, e⟩)
    obtain ⟨x1, x2, x3⟩ := p2 hn
    rw [x1, x2, x3, d2 (fun r hm => hn r ((hC r).mpr hm))]
    rcases hf with hf | ⟨hf, a', b', gr, gi, ga, gb, gs, gj⟩
    · exact Or.inl hf
    · refine Or.inr ⟨hf, a', b', gr, gi, ga, gb, gs, fun j hj => ?_⟩
      have hj1 := gj j hj
      obtain ⟨y1, y2, y3⟩ := (hP j (IN_lt gr hj)).2 (fun r hm => ts_nt (fun e => by
        have := (hr r hm).2 j (IN_lt gr hj) e
        rw [hj1.1] at this
        cases this))
      rw [y1, y2, y3]
      exact hj1
section G
variable {F : Nat} {nu inF fi la s : Nat → Int32} {Lf : Nat × Nat → Bool} {a : Int32 × (Nat → Int32) × (Nat → Int32) × (Nat → Int64) × (Nat → Int32)} {m : Int32 × (Nat → Int64) × (Nat → Int32) × (Nat → Int32) × (Nat → Int32)}
def crt (nu inF : Nat → Int32) (Lf : Nat × Nat → Bool) (r : Nat × Nat) : Bool := Lf r && one nu inF Lf (own nu r)
theorem crt_one {r r' : Nat × Nat} (h : crt nu inF Lf r = true) (hr : r ∈ XL nu inF) (hr' : r' ∈ XL nu inF) (h' : Lf r' = true) (e : own nu r' = own nu r) : r' = r := by
  unfold crt one at h
  rw [Bool.and_eq_true, decide_eq_true_eq] at h
  exact countP_one h.2 hr' hr (by unfold lof; rw [h', decide_eq_true e]; rfl) (by unfold lof; rw [h.1, decide_eq_true (rfl : own nu r = own nu r)]; rfl)
/-- two fields that are certain have no cell in common -/
theorem crt_dj (hmor : mor nu (XL nu inF) Lf (XL nu inF) = false) {r r' : Nat × Nat} (h : crt nu inF Lf r = true) (h' : crt nu inF Lf r' = true) (hr : r ∈ XL nu inF) (hr' : r' ∈ XL nu inF) (hne : r ≠ r') : DJ r r' := by
  rintro k hk ⟨e1, e2⟩
  have hl : Lf r = true := by unfold crt at h; rw [Bool.and_eq_true] at h; exact h.1
  have hl' : Lf r' = true := by unfold crt at h'; rw [Bool.and_eq_true] at h'; exact h'.1
  have ho : own nu r' ≠ own nu r := fun e => hne (crt_one h hr hr' hl' e).symm
  have hout : Out nu (XL nu inF) Lf r := Or.inr ⟨own nu r', own_lt hr', ho, ⟨k, hk, Sm_iff.mpr ⟨r', hr', hl', rfl, e2⟩⟩, k, hk, e1, Al_iff.mpr (fun x hx hlx hox => by
    rw [crt_one h' hr' hx hlx hox]
    exact e2)⟩
  have h3 := nxt_of hmor hr
  unfold nxt at h3
  rw [outb_iff.mpr hout, hl] at h3
  cases h3
theorem XL_nodup (nu inF : Nat → Int32) : (XL nu inF).Nodup := (XL_sorted nu inF).imp (fun {x y} h e => by rw [e] at h; exact absurd h (Nat.lt_irrefl _))
theorem ML_nodup (nu inF : Nat → Int32) : (ML nu inF).Nodup := (ML_perm nu inF).nodup_iff.mpr (XL_nodup nu inF)
theorem nodup_new {α : Type} {l : List α} (h : l.Nodup) {i : Nat} {r : α} (hr : l[i]? = some r) {x : α} (hx : x ∈ l.take i) : x ≠ r := by
  have e : l = l.take i ++ r :: l.drop (i + 1) := by
    have h := ts_lt hr
    have e2 : l[i] = r := by
      rw [List.getElem?_eq_getElem h] at hr
      exact Option.some.inj hr
    rw [← e2, ← List.drop_eq_getElem_cons h, List.take_append_drop]
  rw [e] at h
  have := (List.pairwise_append.mp h).2.2 x hx r (List.mem_cons_self)
  exact this
theorem crt_cnt : (XL nu inF).countP (crt nu inF Lf) = fb_ct (one nu inF Lf) 42 := by
  rw [countP_by (crt nu inF Lf) (own nu) 42 (XL nu inF) (fun x hx => own_lt hx), ← fb_sm_ind]
  refine fb_sm_cong (fun k _ => ?_)
  cases q : one nu inF Lf k with
  | true =>
    rw [if_pos rfl]
    have h1 := q
    unfold one at h1
    have h1 := of_decide_eq_true h1
    refine Eq.trans ?_ h1
    refine List.countP_congr (fun r hr => iff_of_eq (congrArg (fun b => b = true) ?_))
    unfold crt lof
    by_cases e : own nu r = k
    · rw [e, q, Bool.and_true]
    · rw [decide_eq_false e, Bool.and_false, Bool.and_false]
  | false =>
    rw [if_neg (by decide)]
    refine List.countP_eq_zero.mpr (fun r hr e => ?_)
    unfold crt at e
    rw [Bool.and_eq_true, Bool.and_eq_true, decide_eq_true_eq] at e
    rw [e.2, q] at e
    cases e.1.2
theorem nI_one1 {c : Nat} : (nI ((XL nu inF).countP (lof nu Lf c)) = (1 : Int32)) = (one nu inF Lf c = true) := by
  rw [nI_is1 (cnt_lt _)]
  unfold one
  rw [decide_eq_true_eq]
theorem X_placeCertain (hF : 588 < F) (ha : XI nu (XL nu inF) a) {left : Nat → Int32} (hl : LX (XL nu inF) Lf left) (hmor : mor nu (XL nu inF) Lf (XL nu inF) = false) (fi la : Nat → Int32) : ∃ i' f' l', fSteps_placeCertain F left a.1 a.2.2.2.2 a.2.1 a.2.2.1 inF fi la = some (nI (fb_ct (one nu inF Lf) 42), i', f', l') ∧ PL ((XL nu inF).filter (crt nu inF Lf)) inF fi la i' f' l' := by
  have hcl := fun {c} (hc : c < 42) => X_countLeftOf hF ha hl hc
  obtain ⟨h1, h2, h3, h4, h5⟩ := ha
  have hlen := XL_len nu inF
  obtain ⟨x, ⟨hx1, hx2⟩, e⟩ := lp0 (F := F) 588 hF (fun N i (x : Int32 × (Nat → Int32) × (Nat → Int32) × (Nat → Int32)) => fSteps_placeCertain_L4 F left a.1 a.2.2.2.2 a.2.1 a.2.2.1 N x.1 (nI i) x.2.1 x.2.2.1 x.2.2.2) (fun x => (x.1, nI 588, x.2)) (fun i x => x.1 = nI (((XL nu inF).take i).countP (crt nu inF Lf)) ∧ PL (((XL nu inF).take i).filter (crt nu inF Lf)) inF fi la x.2.1 x.2.2.1 x.2.2.2) (a := ((0 : Int32), inF, fi, la)) ⟨rfl, PL.nil _ _ _⟩
    (fun i x hi hx => by
      obtain ⟨c, i1, f1, l1⟩ := x
      obtain ⟨g1, g2⟩ := hx
      simp only at g1 g2
      subst g1
      have e1 := ge588 hi
      by_cases g : i < (XL nu inF).length
      · have hr : (XL nu inF)[i]? = some (XL nu inF)[i] := List.getElem?_eq_getElem g
        generalize (XL nu inF)[i] = r at hr
        obtain ⟨-, hm, ho, hrc, hok⟩ := XL_get hr
        have e2 : o_rd 588 left (nI i) = some (bI (Lf r)) := by rw [o_rd_s hi (by decide), hl.1 i r hr]
        have e3 : fRectangles_ownerAt (nI i) a.1 a.2.2.2.2 = some (nI (own nu r)) := by rw [h1, ownerAt_s g hlen, h5 i r hr]
        have e4 : fRectangles_firstAt (nI i) a.1 a.2.1 = some (nI r.1) := by rw [h1, firstAt_s g hlen, h2 i r hr]
        have e5 : fRectangles_lastAt (nI i) a.1 a.2.2.1 = some (nI r.2) := by rw [h1, lastAt_s g hlen, h3 i r hr]
        have e6 := hcl ho
        rw [List.take_succ, hr, Option.toList_some, countP_snoc, List.filter_append]
        cases q : crt nu inF Lf r with
        | true =>
          have q' := q
          unfold crt at q'
          rw [Bool.and_eq_true] at q'
          obtain ⟨q1, q2⟩ := q'
          obtain ⟨i2, f2, l2, e7, hp⟩ := place_s (F := F) (by omega) hrc.1 hrc.2.1 i1 f1 l1
          refine ⟨(nI (((XL nu inF).take i).countP (crt nu inF Lf) + 1), i2, f2, l2), ⟨by rw [if_pos rfl], ?_⟩, fun N => ?_⟩
          · rw [List.filter_cons_of_pos q, List.filter_nil]
            refine g2.snoc (fun r' hr' => ?_) hp
            obtain ⟨hm', hc'⟩ := List.mem_filter.mp hr'
            exact crt_dj hmor hc' q (List.mem_of_mem_take hm') hm (nodup_new (XL_nodup nu inF) hr hm')
          · simp only [fSteps_placeCertain_L4, e1, if_false, e2, q1, bI_t, Option.bind_some, show ¬ (1 : Int32) = 0 by decide, e3, e6, nI_one1, q2, not_true_eq_false, e4, e5, e7, nI_1]
        | false =>
          refine ⟨(nI (((XL nu inF).take i).countP (crt nu inF Lf)), i1, f1, l1), ⟨by rw [if_neg (by decide), Nat.add_zero], ?_⟩, fun N => ?_⟩
          · rw [List.filter_cons_of_neg (by rw [q]; decide), List.filter_nil, List.append_nil]
            exact g2
          · cases q1 : Lf r with
            | false => simp only [fSteps_placeCertain_L4, e1, if_false, e2, q1, bI_f, Option.bind_some, if_true, nI_1]
            | true =>
              have q2 : ¬ one nu inF Lf (own nu r) = true := fun e => by
                unfold crt at q
                rw [q1, e] at q
                cases q
              simp only [fSteps_placeCertain_L4, e1, if_false, e2, q1, bI_t, Option.bind_some, show ¬ (1 : Int32) = 0 by decide, e3, e6, nI_one1, q2, Bool.false_eq_true, not_false_eq_true, if_true, nI_1]
      · have e2 : o_rd 588 left (nI i) = some 0 := by rw [o_rd_s hi (by decide), hl.2 i (by omega) hi]
        refine ⟨(nI (((XL nu inF).take i).countP (crt nu inF Lf)), i1, f1, l1), ?_, fun N => ?_⟩
        · rw [List.take_of_length_le (show (XL nu inF).length ≤ i + 1 by omega)]
          rw [List.take_of_length_le (show (XL nu inF).length ≤ i by omega)] at g2 ⊢
          exact ⟨rfl, g2⟩
        · simp only [fSteps_placeCertain_L4, e1, if_false, e2, Option.bind_some, if_true, nI_1])
    (fun N x hx => by simp only [fSteps_placeCertain_L4, show (588 : Int32) ≤ nI 588 from Int32.le_refl _, if_true])
  rw [List.take_of_length_le hlen] at hx1 hx2
  refine ⟨x.2.1, x.2.2.1, x.2.2.2, ?_, hx2⟩
  unfold fSteps_placeCertain
  try rw [nI_0] at e
  rw [show (fSteps_placeCertain_L4 F left a.1 a.2.2.2.2 a.2.1 a.2.2.1 F 0 0 inF fi la) = some (x.1, nI 588, x.2) from e, Option.bind_some, ← crt_cnt, ← hx1]
theorem M_settle1 (hF : 588 < F) (hm : MI nu (ML nu inF) m) {over : Nat → Int32} (hl : LM (ML nu inF) Lf over) (ru0 : Nat → Int32) : ∃ ru, fM_settle_L33 F m.1 m.2.2.1 over F 0 ru0 = some (nI (ML nu inF).length, ru) ∧ AG (ML nu inF) ru (fun r => bI (crt nu inF Lf r)) := by
  have hcl := fun {c} (hc : c < 42) => M_leftIn hF hm hl hc
  obtain ⟨h1, h2, h3, h4, h5⟩ := hm
  have hlen := ML_len nu inF
  obtain ⟨x, hx, e⟩ := lpl (F := F) (ML nu inF) (by omega) (fun N i (x : Nat → Int32) => fM_settle_L33 F m.1 m.2.2.1 over N (nI i) x) (fun x => (nI (ML nu inF).length, x)) (fun l x => AG l x (fun r => bI (crt nu inF Lf r))) (a := ru0) AG.nil
    (fun i r x hr hi hx => by
      obtain ⟨-, hi2, -, ho, -, -⟩ := ML_get hr
      have e1 : ¬ m.1 ≤ nI i := by rw [h1]; exact nI_ge hi (by omega)
      have e2 : o_rd 1200 over (nI i) = some (bI (!Lf r)) := by rw [o_rd_s (by omega) (by decide), hl i r hr]
      have e3 : o_rd 1200 m.2.2.1 (nI i) = some (nI (own nu r)) := by rw [o_rd_s (by omega) (by decide), h3 i r hr]
      have e6 := hcl ho
      have hln : ((ML nu inF).take i).length = i := by rw [List.length_take]; omega
      refine ⟨upd x i (bI (crt nu inF Lf r)), ?_, fun N => ?_⟩
      · have := hx.pushI r
        rw [hln] at this
        exact this
      · have e5 : ∀ b : Bool, o_wrZ 1200 x (nI i) (bI b) = some (upd x i (bI b)) := fun b => o_wrZ_b (by omega) (by decide)
        have e50 := e5 false
        have e51 := e5 true
        rw [bI_f] at e50
        rw [bI_t] at e51
        cases q : Lf r with
        | false =>
          have q3 : crt nu inF Lf r = false := by unfold crt; rw [q]; rfl
          simp only [fM_settle_L33, e1, if_false, e2, q, Bool.not_false, bI_t, Option.bind_some, show ¬ (1 : Int32) = 0 by decide, not_false_eq_true, if_true, e50, q3, bI_f, nI_1]
        | true =>
          by_cases q2 : one nu inF Lf (own nu r) = true
          · have q3 : crt nu inF Lf r = true := by unfold crt; rw [q, q2]; rfl
            simp only [fM_settle_L33, e1, if_false, e2, q, Bool.not_true, bI_f, Option.bind_some, not_true_eq_false, e3, e6, nI_one1, q2, e51, q3, bI_t, nI_1]
          · have q3 : crt nu inF Lf r = false := by unfold crt; rw [q, ts_nt q2]; rfl
            simp only [fM_settle_L33, e1, if_false, e2, q, Bool.not_true, bI_f, Option.bind_some, not_true_eq_false, e3, e6, nI_one1, q2, Bool.false_eq_true, not_false_eq_true, if_true, e50, q3, bI_f, nI_1])
    (fun N x hx => by
      have e1 : m.1 ≤ nI (ML nu inF).length := by rw [h1]; exact Int32.le_refl _
      simp only [fM_settle_L33, e1, if_true])
  try rw [nI_0] at e
  exact ⟨x, e, hx⟩
theorem M_settle2 (hF : 588 < F) (hm : MI nu (ML nu inF) m) (hmor : mor nu (XL nu inF) Lf (XL nu inF) = false) {ru : Nat → Int32} (hru : AG (ML nu inF) ru (fun r => bI (crt nu inF Lf r))) (s : Nat → Int32) : ∃ s', fM_settle_L83 F m.1 m.2.1 ru F 0 s = some (nI (ML nu inF).length, s') ∧ DL ((ML nu inF).filter (crt nu inF Lf)) s s' := by
  obtain ⟨h1, h2, h3, h4, h5⟩ := hm
  have hlen := ML_len nu inF
  obtain ⟨x, hx, e⟩ := lpl (F := F) (ML nu inF) (by omega) (fun N i (x : Nat → Int32) => fM_settle_L83 F m.1 m.2.1 ru N (nI i) x) (fun x => (nI (ML nu inF).length, x)) (fun l x => DL (l.filter (crt nu inF Lf)) s x) (a := s) (DL.nil s)
    (fun i r x hr hi hx => by
      obtain ⟨-, hi2, hm2, ho, hrc, -⟩ := ML_get hr
      have e1 : ¬ m.1 ≤ nI i := by rw [h1]; exact nI_ge hi (by omega)
      have e2 : o_rd 1200 ru (nI i) = some (bI (crt nu inF Lf r)) := by rw [o_rd_s (by omega) (by decide), hru i r hr]
      have e3 : o_rd 1200 m.2.1 (nI i) = some (cs r) := by rw [o_rd_s (by omega) (by decide), h2 i r hr]
      rw [List.filter_append]
      cases q : crt nu inF Lf r with
      | true =>
        obtain ⟨s2, e4, hd1, hd2⟩ := draws_s (F := F) (by omega) hrc (tb_cset (inb r.1 r.2)) x
        refine ⟨s2, ?_, fun N => ?_⟩
        · rw [List.filter_cons_of_pos q, List.filter_nil]
          refine hx.snoc (fun r' hr' => ?_) hd1 hd2
          obtain ⟨hm', hc'⟩ := List.mem_filter.mp hr'
          exact crt_dj hmor hc' q ((ML_perm nu inF).mem_iff.mp (List.mem_of_mem_take hm')) ((ML_perm nu inF).mem_iff.mp hm2) (nodup_new (ML_nodup nu inF) hr hm')
        · have e5 : fM_draws F (cs r) x = some s2 := e4
          simp only [fM_settle_L83, e1, if_false, e2, q, bI_t, Option.bind_some, show ¬ (1 : Int32) = 0 by decide, e3, e5, nI_1]
      | false =>
        refine ⟨x, ?_, fun N => ?_⟩
        · rw [List.filter_cons_of_neg (by rw [q]; decide), List.filter_nil, List.append_nil]
          exact hx
        · simp only [fM_settle_L83, e1, if_false, e2, q, bI_f, Option.bind_some, if_true, nI_1])
    (fun N x hx => by
      have e1 : m.1 ≤ nI (ML nu inF).length := by rw [h1]; exact Int32.le_refl _
      simp only [fM_settle_L83, e1, if_true])
  try rw [nI_0] at e
  exact ⟨x, e, hx⟩
theorem crt_same {r : Nat × Nat} : r ∈ (XL nu inF).filter (crt nu inF Lf) ↔ r ∈ (ML nu inF).filter (crt nu inF Lf) := by
  rw [List.mem_filter, List.mem_filter, (ML_perm nu inF).mem_iff]
theorem crt_ok {r : Nat × Nat} (h : r ∈ (XL nu inF).filter (crt nu inF Lf)) : RC r.1 r.2 ∧ ∀ k, k < 42 → inb r.1 r.2 k = true → inF k = 0 := by
  obtain ⟨h1, -⟩ := List.mem_filter.mp h
  obtain ⟨h2, h3⟩ := mem_XL.mp h1
  exact ⟨h2, fun k hk e => OKfree h3 hk e⟩
end G
