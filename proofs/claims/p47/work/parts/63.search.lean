/-! THE MATHEMATICS: the class's two searches. Own text. -/
theorem sm_snoc {α : Type} (g : α → Nat) (x : α) : ∀ l : List α, sm (l ++ [x]) g = sm l g + g x
  | [] => by
    show sm [x] g = 0 + g x
    rw [sm_cons, sm_nil]
    omega
  | y :: t => by
    show sm (y :: (t ++ [x])) g = _
    rw [sm_cons, sm_cons, sm_snoc g x t]
    omega
theorem pw_take {α : Type} {R : α → α → Prop} {l : List α} (h : l.Pairwise R) {i : Nat} {r : α} (hr : l[i]? = some r) {x : α} (hx : x ∈ l.take i) : R x r := by
  have e : l = l.take i ++ r :: l.drop (i + 1) := by
    have h := ts_lt hr
    have e2 : l[i] = r := by
      rw [List.getElem?_eq_getElem h] at hr
      exact Option.some.inj hr
    rw [← e2, ← List.drop_eq_getElem_cons h, List.take_append_drop]
  rw [e] at h
  exact (List.pairwise_append.mp h).2.2 x hx r (List.mem_cons_self)
section G
variable {F : Nat} {nu inF : Nat → Int32} {a : Int32 × (Nat → Int32) × (Nat → Int32) × (Nat → Int64) × (Nat → Int32)}
def rch (l : List (Nat × Nat)) (cov : Int64) (j : Nat) : Bool := l.any (fun r => dj cov r && inb r.1 r.2 j)
theorem rch_snoc (l : List (Nat × Nat)) (r : Nat × Nat) (cov : Int64) (j : Nat) : rch (l ++ [r]) cov j = (rch l cov j || (dj cov r && inb r.1 r.2 j)) := by
  unfold rch
  rw [List.any_append]
  simp
theorem reach_s (hF : 588 < F) (ha : XI nu (XL nu inF) a) (cov : Int64) : fRectangles_cellsInReach F cov a.1 a.2.2.2.1 = some (cset (rch (XL nu inF) cov)) := by
  obtain ⟨h1, h2, h3, h4, h5⟩ := ha
  have hl := XL_len nu inF
  obtain ⟨x, hx, e⟩ := lpl (F := F) (XL nu inF) (by omega) (fun N i (x : Int64) => fRectangles_cellsInReach_L5 F cov (nI (XL nu inF).length) a.2.2.2.1 N x (nI i)) (fun x => (x, nI (XL nu inF).length)) (fun l x => x = cset (rch l cov)) (a := 0) ((cset_0 _).mpr (fun k _ => rfl)).symm
    (fun i r x hr hi hx => by
      subst hx
      have e1 : ¬ nI (XL nu inF).length ≤ nI i := nI_ge hi (by omega)
      cases q : dj cov r with
      | true =>
        have q2 := cs_dj.mpr q
        refine ⟨_, rfl, fun N => ?_⟩
        have e4 : cset (rch ((XL nu inF).take i ++ [r]) cov) = cset (rch ((XL nu inF).take i) cov) ||| cs r := by
          unfold cs
          rw [cset_or]
          exact cset_cong (fun j _ => by rw [rch_snoc, q, Bool.true_and])
        simp only [fRectangles_cellsInReach_L5, e1, if_false, cellsAt_s hi hl, h4 i r hr, Option.bind_some, q2, not_true_eq_false, e4, nI_1]
      | false =>
        have q2 : ¬ (cs r &&& cov) = 0 := fun e => by rw [cs_dj.mp e] at q; cases q
        refine ⟨_, rfl, fun N => ?_⟩
        have e4 : cset (rch ((XL nu inF).take i ++ [r]) cov) = cset (rch ((XL nu inF).take i) cov) := cset_cong (fun j _ => by rw [rch_snoc, q, Bool.false_and, Bool.or_false])
        simp only [fRectangles_cellsInReach_L5, e1, if_false, cellsAt_s hi hl, h4 i r hr, Option.bind_some, q2, not_false_eq_true, if_true, Int64.or_zero, e4, nI_1])
    (fun N x hx => by simp only [fRectangles_cellsInReach_L5, Int32.le_refl, if_true])
  subst hx
  unfold fRectangles_cellsInReach
  try rw [nI_0] at e
  rw [h1, e]
  rfl
theorem free_cs (cov : Int64) : ((4398046511103 : Int64) &&& (cov ^^^ (-1 : Int64))) = cset (fun k => !tb cov k) := by
  show ALL &&& _ = _
  rw [ALL_cs, and_not]
  exact cset_cong (fun k _ => Bool.true_and _)
theorem no_way {cov : Int64} (hb : inB cov) (h : ¬ cset (rch (XL nu inF) cov) = cset (fun k => !tb cov k)) : WW nu inF cov = 0 := by
  have : ∃ c, c < 42 ∧ tb cov c = false ∧ rch (XL nu inF) cov c = false := by
    apply Classical.byContradiction
    intro q
    refine h (cset_cong (fun k hk => ?_))
    cases e : tb cov k with
    | false =>
      cases e2 : rch (XL nu inF) cov k with
      | false => exact absurd ⟨k, hk, e, e2⟩ q
      | true => rfl
    | true =>
      refine ts_nt (fun e2 => ?_)
      unfold rch at e2
      rw [List.any_eq_true] at e2
      obtain ⟨r, -, e3⟩ := e2
      rw [Bool.and_eq_true] at e3
      rw [dj_iff.mp e3.1 k hk e3.2] at e
      cases e
  obtain ⟨c, hc, h1, h2⟩ := this
  refine WW_none hb hc h1 (fun r hr hi => ts_nt (fun e => ?_))
  have : rch (XL nu inF) cov c = true := by
    unfold rch
    rw [List.any_eq_true]
    exact ⟨r, hr, by rw [e, hi]; rfl⟩
  rw [h2] at this
  cases this
def CH (nu inF : Nat → Int32) (C : List (Nat × Nat)) (ch : Nat → Int32) : Prop := ∀ j r, C[j]? = some r → ∃ i, ch j = nI i ∧ (XL nu inF)[i]? = some r
theorem placeChosen_s (hF : 588 < F) (ha : XI nu (XL nu inF) a) {C : List (Nat × Nat)} (hC : C.length ≤ 42) {ch : Nat → Int32} (hch : CH nu inF C ch) (hd : C.Pairwise DJ) (i0 f0 l0 : Nat → Int32) : ∃ i' f' l', fCellSearch_placeChosen F (nI C.length) ch a.1 a.2.1 a.2.2.1 i0 f0 l0 = some (i', f', l') ∧ PL C i0 f0 l0 i' f' l' := by
  obtain ⟨h1, h2, h3, h4, h5⟩ := ha
  have hl := XL_len nu inF
  obtain ⟨x, hx, e⟩ := lpl (F := F) C (by omega) (fun N i (x : (Nat → Int32) × (Nat → Int32) × (Nat → Int32)) => fCellSearch_placeChosen_L2 F (nI C.length) ch a.1 a.2.1 a.2.2.1 N (nI i) x.1 x.2.1 x.2.2) (fun x => (nI C.length, x)) (fun l x => PL l i0 f0 l0 x.1 x.2.1 x.2.2) (a := (i0, f0, l0)) (PL.nil _ _ _)
    (fun j r x hr hj hx => by
      obtain ⟨i, hi1, hi2⟩ := hch j r hr
      obtain ⟨hi3, hm, -, hrc, -⟩ := XL_get hi2
      have e1 : ¬ nI C.length ≤ nI j := nI_ge hj (by omega)
      have e2 : ¬ (42 : Int32) ≤ nI j := ge42 (by omega)
      have e3 : o_rd 42 ch (nI j) = some (nI i) := by rw [o_rd_s (by omega) (by decide), hi1]
      have e4 : fRectangles_firstAt (nI i) a.1 a.2.1 = some (nI r.1) := by rw [h1, firstAt_s hi3 hl, h2 i r hi2]
      have e5 : fRectangles_lastAt (nI i) a.1 a.2.2.1 = some (nI r.2) := by rw [h1, lastAt_s hi3 hl, h3 i r hi2]
      obtain ⟨i2, f2, l2, e7, hp⟩ := place_s (F := F) (by omega) hrc.1 hrc.2.1 x.1 x.2.1 x.2.2
      refine ⟨(i2, f2, l2), hx.snoc (fun r' hr' => pw_take hd hr hr') hp, fun N => ?_⟩
      simp only [fCellSearch_placeChosen_L2, e1, e2, if_false, e3, Option.bind_some, e4, e5, e7, nI_1])
    (fun N x hx => by simp only [fCellSearch_placeChosen_L2, Int32.le_refl, if_true])
  refine ⟨x.1, x.2.1, x.2.2, ?_, hx⟩
  unfold fCellSearch_placeChosen
  try rw [nI_0] at e
  rw [e]
  rfl
/-- what a search leaves behind, with the ways L found from w on -/
def FO (lim w : Nat) (C : List (Nat × Nat)) (L : List (List (Nat × Nat))) (ch0 i0 f0 l0 : Nat → Int32) (o : (Nat → Int32) × (Nat → Int32) × (Nat → Int32) × (Nat → Int32) × Int32) : Prop :=
  o.2.2.2.2 = nI (min lim (w + L.length)) ∧ (∀ j, j < C.length → o.1 j = ch0 j) ∧ (w = 0 → ∀ Z, L.head? = some Z → PL (C ++ Z) i0 f0 l0 o.2.1 o.2.2.1 o.2.2.2.1) ∧ ((0 < w ∨ L = []) → o.2.1 = i0 ∧ o.2.2.1 = f0 ∧ o.2.2.2.1 = l0)
theorem FO.app {lim w : Nat} {C : List (Nat × Nat)} {L1 L2 : List (List (Nat × Nat))} {ch0 i0 f0 l0 : Nat → Int32} {o1 o2 : (Nat → Int32) × (Nat → Int32) × (Nat → Int32) × (Nat → Int32) × Int32} {r : Nat × Nat} {v : Int32} (h1 : FO lim w C L1 ch0 i0 f0 l0 o1) (hlt : w + L1.length < lim) (h2 : FO lim (w + L1.length) (C ++ [r]) L2 (upd o1.1 C.length v) o1.2.1 o1.2.2.1 o1.2.2.2.1 o2) : FO lim w C (L1 ++ L2.map (fun Z => r :: Z)) ch0 i0 f0 l0 o2 := by
  obtain ⟨a1, a2, a3, a4⟩ := h1
  obtain ⟨b1, b2, b3, b4⟩ := h2
  refine ⟨?_, fun j hj => ?_, fun hw Z hZ => ?_, fun h => ?_⟩
  · rw [b1, List.length_append, List.length_map, Nat.add_assoc]
  · rw [b2 j (by rw [len_snoc]; omega), upd_off _ _ (by omega)]
    exact a2 j hj
  · cases L1 with
    | nil =>
      rw [List.nil_append] at hZ
      obtain ⟨e1, e2, e3⟩ := a4 (Or.inr rfl)
      cases L2 with
      | nil => cases hZ
      | cons Z' t =>
        have : r :: Z' = Z := by simpa using hZ
        subst this
        have := b3 (by rw [hw]; rfl) Z' rfl
        rw [e1, e2, e3, List.append_assoc] at this
        exact this
    | cons Y t =>
      have : Y = Z := by simpa using hZ
      subst this
      obtain ⟨e1, e2, e3⟩ := b4 (Or.inl (by rw [List.length_cons]; omega))
      rw [e1, e2, e3]
      exact a3 hw Y rfl
  · rcases h with h | h
    · obtain ⟨e1, e2, e3⟩ := b4 (Or.inl (by omega))
      obtain ⟨g1, g2, g3⟩ := a4 (Or.inl h)
      exact ⟨e1.trans g1, e2.trans g2, e3.trans g3⟩
    · obtain ⟨hL1, hL2⟩ := List.append_eq_nil_iff.mp h
      have hL2 := List.map_eq_nil_iff.mp hL2
      obtain ⟨e1, e2, e3⟩ := b4 (Or.inr hL2)
      obtain ⟨g1, g2, g3⟩ := a4 (Or.inr hL1)
      exact ⟨e1.trans g1, e2.trans g2, e3.trans g3⟩
theorem fill_s (hF : 588 < F) (ha : XI nu (XL nu inF) a) {lim : Nat} (hlim : lim ≤ 50) : ∀ (D : Nat) (cov : Int64), frc cov ≤ D → inB cov → ∀ (C : List (Nat × Nat)) (ch i0 f0 l0 : Nat → Int32) (w : Nat), w < lim → C.length + frc cov ≤ 42 → CH nu inF C ch → C.Pairwise DJ → (∀ r, r ∈ C → ∀ k, k < 42 → inb r.1 r.2 k = true → tb cov k = true) → ∀ E, D < E → ∃ o, fCellSearch_fill F E cov (nI C.length) a.1 a.2.2.2.1 (nI w) (nI lim) a.2.1 ch a.2.2.1 i0 f0 l0 = some o ∧ FO lim w C (FL nu inF cov) ch i0 f0 l0 o := by
  intro D
  induction D with
  | zero =>
    intro cov hD hb C ch i0 f0 l0 w hw hC hch hd hcv E hE
    obtain ⟨E', rfl⟩ : ∃ E', E = E' + 1 := ⟨E - 1, by omega⟩
    have e := (full_iff hb).mpr (Nat.le_zero.mp hD)
    subst e
    have eA : ALL = (4398046511103 : Int64) := rfl
    rw [FL_full]
    by_cases q : w = 0
    · subst q
      obtain ⟨i', f', l', e1, hp⟩ := placeChosen_s hF ha (by omega) hch hd i0 f0 l0
      refine ⟨(ch, i', f', l', nI 1), ?_, by rw [Nat.min_eq_right (by simp; omega)]; rfl, fun j _ => rfl, fun _ Z hZ => ?_, fun h => ?_⟩
      · simp only [fCellSearch_fill, eA, not_true_eq_false, if_false, nI_0, e1, Option.bind_some]
        rfl
      · have : [] = Z := by simpa using hZ
        subst this
        rw [List.append_nil]
        exact hp
      · rcases h with h | h
        · omega
        · cases h
    · have q2 : ¬ nI w = 0 := nI_ne0 (by omega) (by omega)
      refine ⟨(ch, i0, f0, l0, nI (w + 1)), ?_, by rw [Nat.min_eq_right (by simp; omega)]; rfl, fun j _ => rfl, fun h => absurd h q, fun _ => ⟨rfl, rfl, rfl⟩⟩
      simp only [fCellSearch_fill, eA, not_true_eq_false, if_false, q2, not_false_eq_true, if_true, Option.bind_some, nI_1]
  | succ D ih =>
    intro cov hD hb C ch i0 f0 l0 w hw hC hch hd hcv E hE
    by_cases hA : cov = ALL
    · have h0 : frc cov ≤ 0 := Nat.le_of_eq ((full_iff hb).mp hA)
      obtain ⟨E', rfl⟩ : ∃ E', E = E' + 1 := ⟨E - 1, by omega⟩
      subst hA
      have eA : ALL = (4398046511103 : Int64) := rfl
      rw [FL_full]
      by_cases q : w = 0
      · subst q
        obtain ⟨i', f', l', e1, hp⟩ := placeChosen_s hF ha (by omega) hch hd i0 f0 l0
        refine ⟨(ch, i', f', l', nI 1), ?_, by rw [Nat.min_eq_right (by simp; omega)]; rfl, fun j _ => rfl, fun _ Z hZ => ?_, fun h => ?_⟩
        · simp only [fCellSearch_fill, eA, not_true_eq_false, if_false, nI_0, e1, Option.bind_some]
          rfl
        · have : [] = Z := by simpa using hZ
          subst this
          rw [List.append_nil]
          exact hp
        · rcases h with h | h
          · omega
          · cases h
      · have q2 : ¬ nI w = 0 := nI_ne0 (by omega) (by omega)
        refine ⟨(ch, i0, f0, l0, nI (w + 1)), ?_, by rw [Nat.min_eq_right (by simp; omega)]; rfl, fun j _ => rfl, fun h => absurd h q, fun _ => ⟨rfl, rfl, rfl⟩⟩
        simp only [fCellSearch_fill, eA, not_true_eq_false, if_false, q2, not_false_eq_true, if_true, Option.bind_some, nI_1]
    · obtain ⟨E', rfl⟩ : ∃ E', E = E' + 1 := ⟨E - 1, by omega⟩
      have hA' : ¬ cov = (4398046511103 : Int64) := hA
      have hf : frc cov ≠ 0 := fun e => hA ((full_iff hb).mpr e)
      have hdep : ¬ (42 : Int32) ≤ nI C.length := ge42 (by omega)
      have er := reach_s hF ha cov
      by_cases hR : cset (rch (XL nu inF) cov) = cset (fun k => !tb cov k)
      · have hlow : fX_lowestCell (cset (fun k => !tb cov k)) = some (nI (lof0 cov)) := lowest_X _
        obtain ⟨g1, g2, g3⟩ := low_free hf
        have hl := XL_len nu inF
        have hxi := ha
        obtain ⟨h1, h2, h3, h4, h5⟩ := ha
        obtain ⟨z, ⟨o, hz, ho⟩, e⟩ := lsr (XL nu inF).length (fun N i (o : (Nat → Int32) × (Nat → Int32) × (Nat → Int32) × (Nat → Int32) × Int32) => fCellSearch_fillFrom_L3 F (fCellSearch_fill F E') (nI (lof0 cov)) cov (nI C.length) a.1 (nI lim) a.2.2.2.1 a.2.1 a.2.2.1 N (nI i) o.2.2.2.2 o.1 o.2.1 o.2.2.1 o.2.2.2.1) (fun i o => FO lim w C ((((XL nu inF).take i).filter (fun r => decide (r.1 = lof0 cov) && dj cov r)).flatMap (fun r => (FL nu inF (cov ||| cs r)).map (fun Z => r :: Z))) ch i0 f0 l0 o) (fun z => ∃ o, (z.2.1 = o.2.2.2.2 ∧ z.2.2.1 = o.1 ∧ z.2.2.2.1 = o.2.1 ∧ z.2.2.2.2.1 = o.2.2.1 ∧ z.2.2.2.2.2 = o.2.2.2.1) ∧ FO lim w C (FL nu inF cov) ch i0 f0 l0 o)
          (fun i o hi ho => by
            have hr : (XL nu inF)[i]? = some (XL nu inF)[i] := List.getElem?_eq_getElem hi
            generalize (XL nu inF)[i] = r at hr
            obtain ⟨-, hm, -, hrc, -⟩ := XL_get hr
            have e1 : ¬ a.1 ≤ nI i := by rw [h1]; exact nI_ge hi (by omega)
            have e2 : fRectangles_cellsAt (nI i) a.1 a.2.2.2.1 = some (cs r) := by rw [h1, cellsAt_s hi hl, h4 i r hr]
            have e3 : fRectangles_firstAt (nI i) a.1 a.2.1 = some (nI r.1) := by rw [h1, firstAt_s hi hl, h2 i r hr]
            have hw1 := ho.1
            generalize hL : (((XL nu inF).take i).filter (fun r => decide (r.1 = lof0 cov) && dj cov r)).flatMap (fun r => (FL nu inF (cov ||| cs r)).map (fun Z => r :: Z)) = L1 at ho hw1
            by_cases qw : lim ≤ w + L1.length
            · have e4 : nI lim ≤ o.2.2.2.2 := by rw [hw1, Nat.min_eq_left qw]; exact Int32.le_refl _
              refine Or.inl ⟨(nI i, o.2.2.2.2, o.1, o.2.1, o.2.2.1, o.2.2.2.1), ⟨o, ⟨rfl, rfl, rfl, rfl, rfl⟩, ?_⟩, fun N => ?_⟩
              · have hFL : ∃ L2, FL nu inF cov = L1 ++ L2 := by
                  refine ⟨(((XL nu inF).drop i).filter (fun r => decide (r.1 = lof0 cov) && dj cov r)).flatMap (fun r => (FL nu inF (cov ||| cs r)).map (fun Z => r :: Z)), ?_⟩
                  rw [FL_rec hb hA, ← hL, ← List.flatMap_append, ← List.filter_append, List.take_append_drop]
                  rfl
                obtain ⟨L2, hFL⟩ := hFL
                rw [hFL]
                have hne : L1 ≠ [] := fun e => by rw [e] at qw; simp at qw; omega
                obtain ⟨a1, a2, a3, a4⟩ := ho
                refine ⟨?_, a2, fun hw0 Z hZ => a3 hw0 Z ?_, fun h => a4 ?_⟩
                · rw [a1, List.length_append, Nat.min_eq_left qw, Nat.min_eq_left (by omega)]
                · cases L1 with
                  | nil => exact absurd rfl hne
                  | cons Y t => simpa using hZ
                · rcases h with h | h
                  · exact Or.inl h
                  · exact absurd (List.append_eq_nil_iff.mp h).1 hne
              · simp only [fCellSearch_fillFrom_L3, fRectangles_size, Option.bind_some, e1, if_false, e4, if_true]
            · have e4 : ¬ nI lim ≤ o.2.2.2.2 := by
                rw [hw1, Nat.min_eq_right (by omega)]
                exact nI_ge (by omega) (by omega)
              have hwo : o.2.2.2.2 = nI (w + L1.length) := by rw [hw1, Nat.min_eq_right (by omega)]
              right
              rw [List.take_succ, hr, Option.toList_some, List.filter_append, List.flatMap_append, hL]
              by_cases q1 : r.1 = lof0 cov
              · cases q2 : dj cov r with
                | true =>
                  have hd2 := dj_iff.mp q2
                  have e5 := cs_dj.mpr q2
                  have hstep := frc_step q2
                  have hpos := sz_pos hrc
                  have p1 : ¬ nI C.length < 0 := nI_pos (by omega)
                  obtain ⟨o2, eo2, ho2⟩ := ih (cov ||| cs r) (by omega) (inB_or hb (inB_cs' r)) (C ++ [r]) (upd o.1 C.length (nI i)) o.2.1 o.2.2.1 o.2.2.2.1 (w + L1.length) (by omega) (by rw [len_snoc]; omega) (fun j r' hr' => by
                    by_cases qj : j < C.length
                    · rw [List.getElem?_append_left qj] at hr'
                      obtain ⟨i', hi1, hi2⟩ := hch j r' hr'
                      exact ⟨i', by rw [upd_off _ _ (by omega), ho.2.1 j qj]; exact hi1, hi2⟩
                    · have hlt := ts_lt hr'
                      rw [len_snoc] at hlt
                      have : j = C.length := by omega
                      subst this
                      rw [List.getElem?_append_right (Nat.le_refl _), Nat.sub_self] at hr'
                      have : r = r' := by simpa using hr'
                      subst this
                      exact ⟨i, upd_at _ _ _, hr⟩) (List.pairwise_append.mpr ⟨hd, List.pairwise_singleton _ _, fun x hx y hy => by
                    rw [List.mem_singleton.mp hy]
                    rintro k hk ⟨c1, c2⟩
                    have := hcv x hx k hk c1
                    rw [hd2 k hk c2] at this
                    cases this⟩) (fun x hx k hk hik => by
                    rw [tb_oc hk]
                    rcases List.mem_append.mp hx with hx | hx
                    · rw [hcv x hx k hk hik]; rfl
                    · rw [List.mem_singleton.mp hx] at hik
                      rw [hik, Bool.or_true]) E' (by omega)
                  refine ⟨o2, ?_, fun N => ?_⟩
                  · rw [List.filter_cons_of_pos (by rw [decide_eq_true q1, q2]; rfl), List.filter_nil, List.flatMap_singleton]
                    exact ho.app (by omega) ho2
                  · rw [len_snoc] at eo2
                    have e4' : ¬ nI lim ≤ nI (w + L1.length) := by rw [← hwo]; exact e4
                    simp only [fCellSearch_fillFrom_L3, fRectangles_size, Option.bind_some, e1, if_false, e4', e2, e3, q1, not_true_eq_false, e5, p1, hdep, o_wrI_s (show C.length < 42 by omega) (show 42 < 2 ^ 31 by decide), nI_1, hwo, eo2]
                | false =>
                  have e5 : ¬ (cs r &&& cov) = 0 := fun e => by rw [cs_dj.mp e] at q2; cases q2
                  refine ⟨o, ?_, fun N => ?_⟩
                  · rw [List.filter_cons_of_neg (by rw [q2, Bool.and_false]; decide), List.filter_nil, List.flatMap_nil, List.append_nil]
                    exact ho
                  · simp only [fCellSearch_fillFrom_L3, fRectangles_size, Option.bind_some, e1, if_false, e4, e2, e3, q1, not_true_eq_false, e5, not_false_eq_true, if_true, nI_1]
              · have e5 : ¬ nI r.1 = nI (lof0 cov) := fun e => q1 (nI_inj (by have := hrc.1; omega) (by omega) e)
                refine ⟨o, ?_, fun N => ?_⟩
                · rw [List.filter_cons_of_neg (by rw [decide_eq_false q1, Bool.false_and]; decide), List.filter_nil, List.flatMap_nil, List.append_nil]
                  exact ho
                · simp only [fCellSearch_fillFrom_L3, fRectangles_size, Option.bind_some, e1, if_false, e4, e2, e3, e5, not_false_eq_true, if_true, nI_1])
          (fun N o ho => by
            refine ⟨(nI (XL nu inF).length, o.2.2.2.2, o.1, o.2.1, o.2.2.1, o.2.2.2.1), ⟨o, ⟨rfl, rfl, rfl, rfl, rfl⟩, ?_⟩, ?_⟩
            · rw [FL_rec hb hA]
              rw [List.take_length] at ho
              exact ho
            · have e1 : a.1 ≤ nI (XL nu inF).length := by rw [h1]; exact Int32.le_refl _
              simp only [fCellSearch_fillFrom_L3, fRectangles_size, Option.bind_some, e1, if_true]) (XL nu inF).length 0 F (ch, i0, f0, l0, nI w) (Nat.zero_add _) (by omega) ⟨by
            show nI w = _
            rw [Nat.min_eq_right (by simp; omega)]
            rfl, fun j _ => rfl, fun _ Z hZ => (by cases hZ), fun _ => ⟨rfl, rfl, rfl⟩⟩
        try rw [nI_0] at e
        refine ⟨o, ?_, ho⟩
        obtain ⟨z1, z2, z3, z4, z5⟩ := hz
        simp only [fCellSearch_fill, hA', not_false_eq_true, if_true, hdep, if_false, er, free_cs, hR, not_true_eq_false, hlow, Option.bind_some, fCellSearch_fillFrom]
        rw [show (fCellSearch_fillFrom_L3 F (fCellSearch_fill F E') (nI (lof0 cov)) cov (nI C.length) a.1 (nI lim) a.2.2.2.1 a.2.1 a.2.2.1 F 0 (nI w) ch i0 f0 l0) = some z from e]
        simp only [Option.bind_some, z1, z2, z3, z4, z5]
      · have hW := no_way hb hR
        have hFL : FL nu inF cov = [] := List.eq_nil_of_length_eq_zero hW
        refine ⟨(ch, i0, f0, l0, nI w), ?_, ?_, fun j _ => rfl, fun _ Z hZ => ?_, fun _ => ⟨rfl, rfl, rfl⟩⟩
        · simp only [fCellSearch_fill, hA', not_false_eq_true, if_true, hdep, if_false, er, free_cs, hR, Option.bind_some]
        · rw [hFL, Nat.min_eq_right (by simp; omega)]
          rfl
        · rw [hFL] at hZ
          cases hZ
theorem inB_Tk (inF : Nat → Int32) : inB (Tk inF) := inB_cset _
theorem tb_Tk {k : Nat} (hk : k < 42) : tb (Tk inF) k = decide (inF k ≠ 0) := tb_cset' _ hk
theorem addsUp_s (hF : 42 < F) : ∃ b : Bool, fBoard_addsUp F inF nu = some (bI b) ∧ (WW nu inF (Tk inF) ≠ 0 → b = true) := by
  unfold fBoard_addsUp
  rw [cellsInFields_e hF, Option.bind_some, free_cs, sumIn_s hF, Option.bind_some, bc_cset]
  by_cases q : isum (fun k => if tb (cset (fun k => !tb (Tk inF) k)) k = true then nu k else 0) 42 = nI (fb_ct (fun k => !tb (Tk inF) k) 42)
  · exact ⟨true, by rw [if_neg (not_not_intro q)]; rfl, fun _ => rfl⟩
  · refine ⟨false, by rw [if_pos q]; rfl, fun h => absurd ?_ q⟩
    rw [← (show frc (Tk inF) = fb_ct (fun k => !tb (Tk inF) k) 42 from rfl), ← adds_up _ (Tk inF) rfl (inB_Tk inF) h]
    refine isum_cong (fun k hk => ?_)
    rw [tb_cset' _ hk]
    cases tb (Tk inF) k <;> simp
/-- the ways cell by cell, and the first one on a board of its own -/
theorem countWays_s (hF : 588 < F) {ef el : Nat → Int32} {ec : Nat → Int64} (hE : EV ef el ec) {lim : Nat} (hl0 : 0 < lim) (hlim : lim ≤ 50) {fi la : Nat → Int32} (hbit : ∀ k, k < 42 → inF k = 0 ∨ inF k = 1) (c0 : Int32) (f0 l0 : Nat → Int32) (s0 : Nat → Int64) (o0 wn wi wf wl : Nat → Int32) (li0 wy0 : Int32) (ch0 : Nat → Int32) : ∃ (a : Int32 × (Nat → Int32) × (Nat → Int32) × (Nat → Int64) × (Nat → Int32)) (wn' wi' wf' wl' ch' : Nat → Int32), XI nu (XL nu inF) a ∧ fCellSearch_countWays F (nI lim) inF nu c0 ec ef f0 el l0 s0 o0 wn wi fi wf la wl li0 wy0 ch0 = some (nI (min lim (WW nu inF (Tk inF))), a.1, a.2.1, a.2.2.1, a.2.2.2.1, a.2.2.2.2, wn', wi', wf', wl', nI lim, nI (min lim (WW nu inF (Tk inF))), ch') ∧ (∀ k, k < 42 → wn' k = nu k) ∧ ∀ Z, (FL nu inF (Tk inF)).head? = some Z → PL Z inF fi la wi' wf' wl' := by
  obtain ⟨a, ha, ea⟩ := find_s hF hE nu inF c0 f0 l0 s0 o0
  obtain ⟨wn1, wi1, wf1, wl1, ec1, hc1⟩ := copy_s (F := F) (by omega) nu inF fi la hbit wn wi wf wl
  obtain ⟨b, eb, hb⟩ := addsUp_s (F := F) (nu := nu) (inF := inF) (by omega)
  have hPL : ∀ {Z wi' wf' wl'}, PL Z wi1 wf1 wl1 wi' wf' wl' → PL Z inF fi la wi' wf' wl' := fun h k hk => by
    obtain ⟨p1, p2⟩ := h k hk
    refine ⟨p1, fun hn => ?_⟩
    obtain ⟨q1, q2, q3⟩ := p2 hn
    obtain ⟨-, r2, r3, r4⟩ := hc1 k hk
    exact ⟨q1.trans r2, q2.trans r3, q3.trans r4⟩
  cases b with
  | false =>
    have hW : WW nu inF (Tk inF) = 0 := Classical.byContradiction (fun c => by have := hb c; cases this)
    have hFL : FL nu inF (Tk inF) = [] := List.eq_nil_of_length_eq_zero hW
    refine ⟨a, wn1, wi1, wf1, wl1, ch0, ha, ?_, fun k hk => (hc1 k hk).1, fun Z hZ => ?_⟩
    · unfold fCellSearch_countWays
      rw [ea, Option.bind_some, ec1, Option.bind_some, eb, Option.bind_some, bI_f, if_pos rfl, hW, Nat.min_eq_right (Nat.zero_le _)]
      rfl
    · rw [hFL] at hZ
      cases hZ
  | true =>
    obtain ⟨o, eo, g1, -, g3, -⟩ := fill_s hF ha hlim 42 (Tk inF) (frc_le _) (inB_Tk inF) [] ch0 wi1 wf1 wl1 0 hl0 (by have := frc_le (Tk inF); simpa using this) (fun j r h => by rw [List.getElem?_nil] at h; cases h) List.Pairwise.nil (fun r hr => by cases hr) 44 (by decide)
    rw [Nat.zero_add] at g1
    refine ⟨a, wn1, o.2.1, o.2.2.1, o.2.2.2.1, o.1, ha, ?_, fun k hk => (hc1 k hk).1, fun Z hZ => ?_⟩
    · unfold fCellSearch_countWays
      rw [ea, Option.bind_some, ec1, Option.bind_some, eb, Option.bind_some, bI_t, if_neg (by decide), cellsInFields_e (by omega), Option.bind_some]
      rw [show (fCellSearch_fill F 44 (Tk inF) (0 : Int32) a.1 a.2.2.2.1 (0 : Int32) (nI lim) a.2.1 ch0 a.2.2.1 wi1 wf1 wl1) = some o from eo]
      simp only [Option.bind_some, g1]
      rfl
    · have := g3 rfl Z hZ
      exact hPL this
/-! number by number -/
theorem choices_s (hF : 588 < F) (ha : XI nu (XL nu inF) a) (cov : Int64) (ch0 : Nat → Int32) : ∃ ch', fNumberSearch_countChoices F cov ch0 a.1 a.2.2.2.2 a.2.2.2.1 = some ch' ∧ ∀ k, k < 42 → ∃ c, c ≤ 588 ∧ ch' k = nI c := by
  obtain ⟨h1, h2, h3, h4, h5⟩ := ha
  have hl := XL_len nu inF
  obtain ⟨x, hx, e⟩ := lp0 (F := F) 42 (by omega) (fun N i (x : Nat → Int32) => fNumberSearch_countChoices_L2 F N (nI i) x) (fun x => (nI 42, x)) (fun i x => ∀ k, k < i → x k = 0) (a := ch0) (fun k hk => by omega)
    (fun i x hi hx => by
      refine ⟨upd x i 0, fun k hk => ?_, fun N => ?_⟩
      · by_cases q : k = i
        · subst q; exact upd_at _ _ _
        · rw [upd_off _ _ q]; exact hx k (by omega)
      · simp only [fNumberSearch_countChoices_L2, ge42 hi, if_false, o_wrI_s hi (show 42 < 2 ^ 31 by decide), Option.bind_some, nI_1])
    (fun N x hx => by simp only [fNumberSearch_countChoices_L2, le42, if_true])
  obtain ⟨y, hy, e2⟩ := lp0 (F := F) (XL nu inF).length (by omega) (fun N i (y : Nat → Int32) => fNumberSearch_countChoices_L23 F cov a.1 a.2.2.2.2 a.2.2.2.1 N (nI i) y) (fun y => (nI (XL nu inF).length, y)) (fun i y => ∀ k, k < 42 → ∃ c, c ≤ i ∧ y k = nI c) (a := x) (fun k hk => ⟨0, Nat.le_refl _, hx k hk⟩)
    (fun i y hi hy => by
      have hr : (XL nu inF)[i]? = some (XL nu inF)[i] := List.getElem?_eq_getElem hi
      generalize (XL nu inF)[i] = r at hr
      obtain ⟨-, -, ho, -, -⟩ := XL_get hr
      have e1 : ¬ a.1 ≤ nI i := by rw [h1]; exact nI_ge hi (by omega)
      have e2 : fRectangles_ownerAt (nI i) a.1 a.2.2.2.2 = some (nI (own nu r)) := by rw [h1, ownerAt_s hi hl, h5 i r hr]
      have e3 : fRectangles_cellsAt (nI i) a.1 a.2.2.2.1 = some (cs r) := by rw [h1, cellsAt_s hi hl, h4 i r hr]
      by_cases q : (cs r &&& cov) = 0
      · obtain ⟨c, hc, ec⟩ := hy _ ho
        refine ⟨upd y (own nu r) (y (own nu r) + 1), fun k hk => ?_, fun N => ?_⟩
        · by_cases q2 : own nu r = k
          · subst q2
            exact ⟨c + 1, by omega, by rw [upd_at, ec, nI_1]⟩
          · rw [upd_off _ _ (fun e => q2 e.symm)]
            obtain ⟨c', h1', h2'⟩ := hy k hk
            exact ⟨c', by omega, h2'⟩
        · simp only [fNumberSearch_countChoices_L23, fRectangles_size, Option.bind_some, e1, if_false, e2, e3, fX_isCell_s ho, show ¬ (1 : Int32) = 0 by decide, q, not_true_eq_false, o_rd_s ho (show 42 < 2 ^ 31 by decide), o_wrI_s ho (show 42 < 2 ^ 31 by decide), nI_1]
      · refine ⟨y, fun k hk => ?_, fun N => ?_⟩
        · obtain ⟨c', h1', h2'⟩ := hy k hk
          exact ⟨c', by omega, h2'⟩
        · simp only [fNumberSearch_countChoices_L23, fRectangles_size, Option.bind_some, e1, if_false, e2, e3, fX_isCell_s ho, show ¬ (1 : Int32) = 0 by decide, q, not_false_eq_true, if_true, nI_1])
    (fun N y hy => by
      have e1 : a.1 ≤ nI (XL nu inF).length := by rw [h1]; exact Int32.le_refl _
      simp only [fNumberSearch_countChoices_L23, fRectangles_size, Option.bind_some, e1, if_true])
  refine ⟨y, ?_, fun k hk => ?_⟩
  · try rw [nI_0] at e
    try rw [nI_0] at e2
    unfold fNumberSearch_countChoices
    rw [e, Option.bind_some, e2]
    rfl
  · obtain ⟨c, h1', h2'⟩ := hy k hk
    exact ⟨c, by omega, h2'⟩
theorem scarcest_s (hF : 588 < F) (ha : XI nu (XL nu inF) a) (cov : Int64) (ch0 : Nat → Int32) : ∃ c ch', fNumberSearch_scarcest F cov ch0 a.1 a.2.2.2.2 a.2.2.2.1 (cset (fun k => decide (nu k ≠ 0) && !decide (inF k ≠ 0))) = some (nI c, ch') ∧ ((c = 42 ∧ ∀ k, k < 42 → nu k ≠ 0 → inF k = 0 → tb cov k = true) ∨ (c < 42 ∧ nu c ≠ 0 ∧ tb cov c = false)) := by
  obtain ⟨ch', e1, hch⟩ := choices_s hF ha cov ch0
  have hbit : ∀ i, i < 42 → (tb ((cset (fun k => decide (nu k ≠ 0) && !decide (inF k ≠ 0))) &&& (cov ^^^ (-1))) i = true ↔ nu i ≠ 0 ∧ inF i = 0 ∧ tb cov i = false) := fun i hi => by
    rw [and_not, tb_cset' _ hi, Bool.and_eq_true, Bool.and_eq_true, Bool.not_eq_true', Bool.not_eq_true', decide_eq_true_eq, decide_eq_false_iff_not, and_assoc]
    simp
  obtain ⟨x, hx, e⟩ := lp0 (F := F) 42 (by omega) (fun N i (x : Int32 × Int32) => fNumberSearch_scarcest_L16 F cov ch' (cset (fun k => decide (nu k ≠ 0) && !decide (inF k ≠ 0))) N x.1 x.2 (nI i)) (fun x => (x.1, x.2, nI 42)) (fun i x => (x = (42, 589) ∧ ∀ k, k < i → nu k ≠ 0 → inF k = 0 → tb cov k = true) ∨ (∃ c, c < 42 ∧ x.1 = nI c ∧ nu c ≠ 0 ∧ tb cov c = false)) (a := (42, 589)) (Or.inl ⟨rfl, fun k hk => by omega⟩)
    (fun i x hi hx => by
      have g := ge42 hi
      by_cases q : tb ((cset (fun k => decide (nu k ≠ 0) && !decide (inF k ≠ 0))) &&& (cov ^^^ (-1))) i = true
      · obtain ⟨q1, q2, q3⟩ := (hbit i hi).mp q
        have e2 : o_rd 42 ch' (nI i) = some (ch' i) := o_rd_s hi (by decide)
        by_cases q4 : x.2 ≤ ch' i
        · refine ⟨x, ?_, fun N => ?_⟩
          · rcases hx with ⟨hx, -⟩ | hx
            · obtain ⟨c, hc, ec⟩ := hch i hi
              rw [hx, ec] at q4
              exact absurd q4 (nI_ge (b := 589) (by omega) (by decide))
            · exact Or.inr hx
          · simp only [fNumberSearch_scarcest_L16, g, if_false, fX_has_s hi, q, if_true, Option.bind_some, show ¬ (1 : Int32) = 0 by decide, e2, q4, nI_1]
        · refine ⟨(nI i, ch' i), Or.inr ⟨i, hi, rfl, q1, q3⟩, fun N => ?_⟩
          simp only [fNumberSearch_scarcest_L16, g, if_false, fX_has_s hi, q, if_true, Option.bind_some, show ¬ (1 : Int32) = 0 by decide, e2, q4, nI_1]
      · refine ⟨x, ?_, fun N => ?_⟩
        · rcases hx with ⟨hx, h2⟩ | hx
          · refine Or.inl ⟨hx, fun k hk h1 h3 => ?_⟩
            by_cases e : k = i
            · subst e
              exact ts_nf (fun c => q ((hbit k hi).mpr ⟨h1, h3, c⟩))
            · exact h2 k (by omega) h1 h3
          · exact Or.inr hx
        · simp only [fNumberSearch_scarcest_L16, g, if_false, fX_has_s hi, q, if_true, Option.bind_some, nI_1, Bool.false_eq_true])
    (fun N x hx => by simp only [fNumberSearch_scarcest_L16, le42, if_true])
  try rw [nI_0] at e
  have e3 : fNumberSearch_scarcest F cov ch0 a.1 a.2.2.2.2 a.2.2.2.1 (cset (fun k => decide (nu k ≠ 0) && !decide (inF k ≠ 0))) = some (x.1, ch') := by
    unfold fNumberSearch_scarcest
    rw [e1, Option.bind_some]
    rw [show (fNumberSearch_scarcest_L16 F cov ch' (cset (fun k => decide (nu k ≠ 0) && !decide (inF k ≠ 0))) F (42 : Int32) (589 : Int32) (0 : Int32)) = some (x.1, x.2, nI 42) from e]
    rfl
  rcases hx with ⟨hx, h2⟩ | ⟨c, hc, h1, h2, h3⟩
  · exact ⟨42, ch', by rw [e3, hx]; rfl, Or.inl ⟨rfl, h2⟩⟩
  · exact ⟨c, ch', by rw [e3, h1], Or.inr ⟨hc, h2, h3⟩⟩
theorem numfill_s (hF : 588 < F) (ha : XI nu (XL nu inF) a) : ∀ (D : Nat) (cov : Int64), frc cov ≤ D → inB cov → (∀ k, k < 42 → inF k ≠ 0 → tb cov k = true) → ∀ (d : Nat) (ch : Nat → Int32) (w : Nat), w < 50 → d + frc cov ≤ 42 → ∀ E, D < E → ∃ ch', fNumberSearch_fill F E cov (nI d) a.1 a.2.2.2.1 ch a.2.2.2.2 (cset (fun k => decide (nu k ≠ 0) && !decide (inF k ≠ 0))) (nI w) = some (ch', nI (min 50 (w + WW nu inF cov))) := by
  intro D
  induction D with
  | zero =>
    intro cov hD hb hfd d ch w hw hd E hE
    obtain ⟨E', rfl⟩ : ∃ E', E = E' + 1 := ⟨E - 1, by omega⟩
    have e := (full_iff hb).mpr (Nat.le_zero.mp hD)
    subst e
    have eA : ALL = (4398046511103 : Int64) := rfl
    rw [WW_full, Nat.min_eq_right (by omega)]
    exact ⟨ch, by simp only [fNumberSearch_fill, eA, not_true_eq_false, if_false, nI_1]⟩
  | succ D ih =>
    intro cov hD hb hfd d ch w hw hd E hE
    obtain ⟨E', rfl⟩ : ∃ E', E = E' + 1 := ⟨E - 1, by omega⟩
    by_cases hA : cov = ALL
    · subst hA
      have eA : ALL = (4398046511103 : Int64) := rfl
      rw [WW_full, Nat.min_eq_right (by omega)]
      exact ⟨ch, by simp only [fNumberSearch_fill, eA, not_true_eq_false, if_false, nI_1]⟩
    · have hA' : ¬ cov = (4398046511103 : Int64) := hA
      have hf : frc cov ≠ 0 := fun e => hA ((full_iff hb).mpr e)
      have hdep : ¬ (42 : Int32) ≤ nI d := ge42 (by omega)
      have er := reach_s hF ha cov
      by_cases hR : cset (rch (XL nu inF) cov) = cset (fun k => !tb cov k)
      · obtain ⟨c, ch1, es, hs⟩ := scarcest_s hF ha cov ch
        have hWW : WW nu inF cov = sm (XL nu inF) (fun r => if (decide (own nu r = c) && dj cov r) = true then WW nu inF (cov ||| cs r) else 0) := by
          rcases hs with ⟨rfl, hs⟩ | ⟨hc, h1, h2⟩
          · obtain ⟨g1, g2, g3⟩ := low_free hf
            rw [WW_none hb g1 g2 (fun r hr hi => ts_nt (fun e => by
              obtain ⟨o1, o2, o3, -⟩ := OKown (mem_XL.mp hr).2
              have := hs _ o1 o3 (OKfree (mem_XL.mp hr).2 o1 o2)
              rw [dj_iff.mp e _ o1 o2] at this
              cases this))]
            exact (sm_zero (fun r hr => by
              have := own_lt hr
              rw [decide_eq_false (show ¬ own nu r = 42 by omega)]
              rfl)).symm
          · exact WW_num hb hc h2 h1
        have hc42 : c ≤ 42 := by
          rcases hs with ⟨rfl, -⟩ | ⟨hc, -, -⟩ <;> omega
        have hl := XL_len nu inF
        have hxi := ha
        obtain ⟨h1, h2, h3, h4, h5⟩ := ha
        obtain ⟨z, ⟨ch2, hz1, hz2⟩, e⟩ := lsr (XL nu inF).length (fun N i (o : Int32 × (Nat → Int32)) => fNumberSearch_fillFor_L3 F (fNumberSearch_fill F E') (nI c) cov (nI d) a.1 a.2.2.2.1 a.2.2.2.2 (cset (fun k => decide (nu k ≠ 0) && !decide (inF k ≠ 0))) N (nI i) o.1 o.2) (fun i o => o.1 = nI (min 50 (w + sm ((XL nu inF).take i) (fun r => if (decide (own nu r = c) && dj cov r) = true then WW nu inF (cov ||| cs r) else 0)))) (fun z => ∃ ch2, z.2.2 = ch2 ∧ z.2.1 = nI (min 50 (w + WW nu inF cov)))
          (fun i o hi ho => by
            have hr : (XL nu inF)[i]? = some (XL nu inF)[i] := List.getElem?_eq_getElem hi
            generalize (XL nu inF)[i] = r at hr
            obtain ⟨-, hm, hown, hrc, -⟩ := XL_get hr
            have e1 : ¬ a.1 ≤ nI i := by rw [h1]; exact nI_ge hi (by omega)
            have e2 : fRectangles_cellsAt (nI i) a.1 a.2.2.2.1 = some (cs r) := by rw [h1, cellsAt_s hi hl, h4 i r hr]
            have e3 : fRectangles_ownerAt (nI i) a.1 a.2.2.2.2 = some (nI (own nu r)) := by rw [h1, ownerAt_s hi hl, h5 i r hr]
            generalize hS : sm ((XL nu inF).take i) (fun r => if (decide (own nu r = c) && dj cov r) = true then WW nu inF (cov ||| cs r) else 0) = S at ho
            by_cases qw : 50 ≤ w + S
            · have e4 : (50 : Int32) ≤ o.1 := by rw [ho, Nat.min_eq_left qw]; exact Int32.le_refl _
              refine Or.inl ⟨(nI i, o.1, o.2), ⟨o.2, rfl, ?_⟩, fun N => ?_⟩
              · show o.1 = _
                rw [ho, Nat.min_eq_left qw, hWW, Nat.min_eq_left]
                have : sm (XL nu inF) (fun r => if (decide (own nu r = c) && dj cov r) = true then WW nu inF (cov ||| cs r) else 0) = S + sm ((XL nu inF).drop i) (fun r => if (decide (own nu r = c) && dj cov r) = true then WW nu inF (cov ||| cs r) else 0) := by
                  rw [← hS]
                  unfold sm
                  rw [← List.sum_append, ← List.map_append, List.take_append_drop]
                omega
              · simp only [fNumberSearch_fillFor_L3, fRectangles_size, Option.bind_some, e1, if_false, e4, if_true]
            · have hwo : o.1 = nI (w + S) := by rw [ho, Nat.min_eq_right (by omega)]
              have e4 : ¬ (50 : Int32) ≤ nI (w + S) := nI_ge (b := 50) (by omega) (by decide)
              right
              rw [List.take_succ, hr, Option.toList_some, sm_snoc, hS]
              by_cases q1 : own nu r = c
              · cases q2 : dj cov r with
                | true =>
                  have e5 := cs_dj.mpr q2
                  have hstep := frc_step q2
                  have hpos := sz_pos hrc
                  obtain ⟨ch3, e6⟩ := ih (cov ||| cs r) (by omega) (inB_or hb (inB_cs' r)) (fun k hk hk2 => by rw [tb_oc hk, hfd k hk hk2]; rfl) (d + 1) o.2 (w + S) (by omega) (by omega) E' (by omega)
                  refine ⟨(nI (min 50 ((w + S) + WW nu inF (cov ||| cs r))), ch3), ?_, fun N => ?_⟩
                  · rw [if_pos (by rw [decide_eq_true q1]; rfl), Nat.add_assoc]
                  · simp only [fNumberSearch_fillFor_L3, fRectangles_size, Option.bind_some, e1, if_false, hwo, e4, e2, e3, q1, not_true_eq_false, e5, nI_1, e6]
                | false =>
                  have e5 : ¬ (cs r &&& cov) = 0 := fun e => by rw [cs_dj.mp e] at q2; cases q2
                  refine ⟨o, ?_, fun N => ?_⟩
                  · rw [Bool.and_false, if_neg (by decide), Nat.add_zero]
                    exact ho
                  · simp only [fNumberSearch_fillFor_L3, fRectangles_size, Option.bind_some, e1, if_false, hwo, e4, e2, e3, q1, not_true_eq_false, e5, not_false_eq_true, if_true, nI_1]
              · have e5 : ¬ nI (own nu r) = nI c := fun e => q1 (nI_inj (by omega) (by omega) e)
                refine ⟨o, ?_, fun N => ?_⟩
                · rw [decide_eq_false q1, Bool.false_and, if_neg (by decide), Nat.add_zero]
                  exact ho
                · simp only [fNumberSearch_fillFor_L3, fRectangles_size, Option.bind_some, e1, if_false, hwo, e4, e2, e3, e5, not_false_eq_true, if_true, nI_1])
          (fun N o ho => by
            refine ⟨(nI (XL nu inF).length, o.1, o.2), ⟨o.2, rfl, ?_⟩, ?_⟩
            · show o.1 = _
              rw [List.take_length, ← hWW] at ho
              exact ho
            · have e1 : a.1 ≤ nI (XL nu inF).length := by rw [h1]; exact Int32.le_refl _
              simp only [fNumberSearch_fillFor_L3, fRectangles_size, Option.bind_some, e1, if_true]) (XL nu inF).length 0 F (nI w, ch1) (Nat.zero_add _) (by omega) (by
            show nI w = _
            rw [List.take_zero, sm_nil, Nat.min_eq_right (by omega)]
            rfl)
        try rw [nI_0] at e
        refine ⟨z.2.2, ?_⟩
        simp only [fNumberSearch_fill, hA', not_false_eq_true, if_true, hdep, if_false, er, free_cs, hR, not_true_eq_false, es, Option.bind_some, fNumberSearch_fillFor]
        rw [show (fNumberSearch_fillFor_L3 F (fNumberSearch_fill F E') (nI c) cov (nI d) a.1 a.2.2.2.1 a.2.2.2.2 (cset (fun k => decide (nu k ≠ 0) && !decide (inF k ≠ 0))) F 0 (nI w) ch1) = some z from e]
        simp only [Option.bind_some, hz2]
      · have hW := no_way hb hR
        refine ⟨ch, ?_⟩
        rw [hW, Nat.min_eq_right (by omega)]
        simp only [fNumberSearch_fill, hA', not_false_eq_true, if_true, hdep, if_false, er, free_cs, hR, Option.bind_some, Nat.add_zero]
theorem numWays_s (hF : 588 < F) {ef el : Nat → Int32} {ec : Nat → Int64} (hE : EV ef el ec) (c0 : Int32) (f0 l0 : Nat → Int32) (s0 : Nat → Int64) (o0 : Nat → Int32) (nm0 : Int64) (wy0 : Int32) (ch0 : Nat → Int32) : ∃ (a : Int32 × (Nat → Int32) × (Nat → Int32) × (Nat → Int64) × (Nat → Int32)) (nm : Int64) (ch' : Nat → Int32), XI nu (XL nu inF) a ∧ fNumberSearch_countWays F inF nu c0 ec ef f0 el l0 s0 o0 nm0 wy0 ch0 = some (nI (min 50 (WW nu inF (Tk inF))), a.1, a.2.1, a.2.2.1, a.2.2.2.1, a.2.2.2.2, nm, nI (min 50 (WW nu inF (Tk inF))), ch') := by
  obtain ⟨a, ha, ea⟩ := find_s hF hE nu inF c0 f0 l0 s0 o0
  obtain ⟨b, eb, hb⟩ := addsUp_s (F := F) (nu := nu) (inF := inF) (by omega)
  cases b with
  | false =>
    have hW : WW nu inF (Tk inF) = 0 := Classical.byContradiction (fun c => by have := hb c; cases this)
    refine ⟨a, cset (fun k => decide (nu k ≠ 0) && !decide (inF k ≠ 0)), ch0, ha, ?_⟩
    unfold fNumberSearch_countWays
    rw [ea, Option.bind_some, openNumbers_e (by omega), Option.bind_some, eb, Option.bind_some, bI_f, if_pos rfl, hW, Nat.min_eq_right (Nat.zero_le _)]
    rfl
  | true =>
    obtain ⟨ch', e⟩ := numfill_s hF ha 42 (Tk inF) (frc_le _) (inB_Tk inF) (fun k hk h => by rw [tb_Tk hk, decide_eq_true h]) 0 ch0 0 (by decide) (by have := frc_le (Tk inF); omega) 44 (by decide)
    rw [Nat.zero_add] at e
    refine ⟨a, cset (fun k => decide (nu k ≠ 0) && !decide (inF k ≠ 0)), ch', ha, ?_⟩
    unfold fNumberSearch_countWays
    rw [ea, Option.bind_some, openNumbers_e (by omega), Option.bind_some, eb, Option.bind_some, bI_t, if_neg (by decide), cellsInFields_e (by omega), Option.bind_some]
    rw [show (fNumberSearch_fill F 44 (Tk inF) (0 : Int32) a.1 a.2.2.2.1 ch0 a.2.2.2.2 (cset (fun k => decide (nu k ≠ 0) && !decide (inF k ≠ 0))) (0 : Int32)) = some (ch', nI (min 50 (WW nu inF (Tk inF)))) from e]
    rfl
end G
