/-! THE MATHEMATICS: the reference's search. Own text. -/
theorem kf_hit {α : Type} {key : α → Nat} {Q : α → Bool} : ∀ {l : List α}, l.Pairwise (fun x y => key x < key y) → ∀ {r}, r ∈ l → Q r = true → l.filter (fun x => Q x && decide (key r ≤ key x)) = r :: l.filter (fun x => Q x && decide (key r + 1 ≤ key x))
  | [], _, _, hr, _ => by cases hr
  | x :: t, h, r, hr, hq => by
    obtain ⟨h1, h2⟩ := List.pairwise_cons.mp h
    rw [List.filter_cons, List.filter_cons]
    rcases List.mem_cons.mp hr with rfl | hr
    · rw [if_pos (show (Q r && decide (key r ≤ key r)) = true by rw [hq, decide_eq_true (Nat.le_refl _)]; rfl), if_neg (show ¬ (Q r && decide (key r + 1 ≤ key r)) = true by rw [decide_eq_false (by omega), Bool.and_false]; decide)]
      refine congrArg (fun t => r :: t) (List.filter_congr (fun y hy => ?_))
      have := h1 y hy
      rw [decide_eq_true (show key r ≤ key y by omega), decide_eq_true (show key r + 1 ≤ key y by omega)]
    · have := h1 r hr
      rw [if_neg (show ¬ (Q x && decide (key r ≤ key x)) = true by rw [decide_eq_false (by omega), Bool.and_false]; decide), if_neg (show ¬ (Q x && decide (key r + 1 ≤ key x)) = true by rw [decide_eq_false (by omega), Bool.and_false]; decide)]
      exact kf_hit h2 hr hq
theorem kf_miss {α : Type} {key : α → Nat} {Q : α → Bool} {l : List α} {K : Nat} (h : ∀ x, x ∈ l → key x = K → Q x = false) : l.filter (fun x => Q x && decide (K ≤ key x)) = l.filter (fun x => Q x && decide (K + 1 ≤ key x)) := List.filter_congr (fun x hx => by
  by_cases q : key x = K
  · rw [h x hx q]; rfl
  · by_cases q2 : K ≤ key x
    · rw [decide_eq_true q2, decide_eq_true (show K + 1 ≤ key x by omega)]
    · rw [decide_eq_false q2, decide_eq_false (show ¬ K + 1 ≤ key x by omega)])
section G
variable {F : Nat} {nu inF fi la s : Nat → Int32} {m : Int32 × (Nat → Int64) × (Nat → Int32) × (Nat → Int32) × (Nat → Int32)}
def CQ (cov : Int64) (r : Nat × Nat) : Bool := decide (r.1 = lof0 cov) && dj cov r
def CB (nu inF : Nat → Int32) (cov : Int64) (p : Nat) : List (Nat × Nat) := (XL nu inF).filter (fun r => CQ cov r && decide (6 * lof0 cov + p ≤ key r))
noncomputable def FP (nu inF : Nat → Int32) (cov : Int64) (p : Nat) : List (List (Nat × Nat)) := (CB nu inF cov p).flatMap (fun r => (FL nu inF (cov ||| cs r)).map (fun Z => r :: Z))
theorem CB_0 (cov : Int64) : CB nu inF cov 0 = cnd nu inF cov := by
  unfold CB cnd
  refine List.filter_congr (fun r hr => ?_)
  unfold CQ
  by_cases q : r.1 = lof0 cov
  · have : 6 * lof0 cov + 0 ≤ key r := by unfold key; omega
    rw [decide_eq_true this, Bool.and_true]
  · rw [decide_eq_false q, Bool.false_and, Bool.false_and]
theorem CB_6 (cov : Int64) : CB nu inF cov 6 = [] := by
  unfold CB
  refine List.filter_eq_nil_iff.mpr (fun r hr e => ?_)
  rw [Bool.and_eq_true, decide_eq_true_eq] at e
  have h1 := e.1
  unfold CQ at h1
  rw [Bool.and_eq_true, decide_eq_true_eq] at h1
  have h2 := (mem_XL.mp hr).1
  unfold RC at h2
  have h3 := e.2
  unfold key at h3
  omega
theorem CB_hit {cov : Int64} {r : Nat × Nat} {p : Nat} (hr : r ∈ XL nu inF) (h1 : r.1 = lof0 cov) (h2 : dj cov r = true) (h3 : key r = 6 * lof0 cov + p) : CB nu inF cov p = r :: CB nu inF cov (p + 1) := by
  unfold CB
  have := kf_hit (Q := CQ cov) (XL_sorted nu inF) hr (by unfold CQ; rw [decide_eq_true h1, h2]; rfl)
  rw [h3] at this
  rw [← Nat.add_assoc]
  exact this
theorem CB_miss {cov : Int64} {p : Nat} (h : ∀ r, r ∈ XL nu inF → key r = 6 * lof0 cov + p → dj cov r = false) : CB nu inF cov p = CB nu inF cov (p + 1) := by
  unfold CB
  rw [← Nat.add_assoc]
  exact kf_miss (Q := CQ cov) (fun x hx e => by unfold CQ; rw [h x hx e, Bool.and_false])
theorem key_low {r : Nat × Nat} {z p : Nat} (hr : RC r.1 r.2) (hp : p < 6) (h : key r = 6 * z + p) : r.1 = z ∧ r.2 / 7 = p := by
  unfold RC at hr
  unfold key at h
  omega
theorem ways72 (hm : MI nu (ML nu inF) m) {cov : Int64} (hf : frc cov ≠ 0) {d : Nat} (hd : d < 43) : ∀ (q p : Nat), p + q = 6 → ∀ N, q + 1 < N → ∀ (last ch : Nat → Int32), last d = nI p →
    (∃ last', fM_ways_L72 F (nI d) (nI (lof0 cov)) m.2.2.2.2 m.2.1 N cov 0 last ch = some (cov, 0, last', ch) ∧ (∀ j, j ≠ d → last' j = last j) ∧ CB nu inF cov p = []) ∨
    (∃ p' r i last', p ≤ p' ∧ p' < 6 ∧ (ML nu inF)[i]? = some r ∧ dj cov r = true ∧ r.1 = lof0 cov ∧ CB nu inF cov p = r :: CB nu inF cov (p' + 1) ∧ last' d = nI (p' + 1) ∧ (∀ j, j ≠ d → last' j = last j) ∧ fM_ways_L72 F (nI d) (nI (lof0 cov)) m.2.2.2.2 m.2.1 N cov 0 last ch = some (cov ||| cs r, 1, last', upd ch d (nI i))) := by
  obtain ⟨h1, h2, h3, h4, h5⟩ := hm
  obtain ⟨g1, g2, g3⟩ := low_free hf
  have hl := ML_len nu inF
  intro q
  induction q with
  | zero =>
    intro p hp N hN last ch hlast
    have e6 : p = 6 := by omega
    subst e6
    obtain ⟨M, rfl⟩ : ∃ M, N = M + 1 := ⟨N - 1, by omega⟩
    have r1 : o_rd 43 last (nI d) = some (nI 6) := by rw [o_rd_s hd (by decide), hlast]
    exact Or.inl ⟨last, by simp only [fM_ways_L72, r1, Option.bind_some, show (6 : Int32) ≤ nI 6 from Int32.le_refl _, if_true], fun _ _ => rfl, CB_6 cov⟩
  | succ q ih =>
    intro p hp N hN last ch hlast
    obtain ⟨M, rfl⟩ : ∃ M, N = M + 1 := ⟨N - 1, by omega⟩
    obtain ⟨M', rfl⟩ : ∃ M', M = M' + 1 := ⟨M - 1, by omega⟩
    have hp6 : p < 6 := by omega
    have r1 : o_rd 43 last (nI d) = some (nI p) := by rw [o_rd_s hd (by decide), hlast]
    have e1 : ¬ (6 : Int32) ≤ nI p := nI_ge (b := 6) hp6 (by decide)
    have e2 : ((6 : Int32) * nI (lof0 cov)) + nI p = nI (6 * lof0 cov + p) := by rw [show (6 : Int32) = nI 6 from rfl, pk_mul, nI_add]
    have e3 : o_rd 252 m.2.2.2.2 (nI (6 * lof0 cov + p)) = some (m.2.2.2.2 (6 * lof0 cov + p)) := o_rd_s (by omega) (by decide)
    have e4 : o_wrI 43 last (nI d) (nI (p + 1)) = some (upd last d (nI (p + 1))) := o_wrI_s hd (by decide)
    have hnext : ∀ ch, (∃ last', fM_ways_L72 F (nI d) (nI (lof0 cov)) m.2.2.2.2 m.2.1 (M' + 1) cov 0 (upd last d (nI (p + 1))) ch = some (cov, 0, last', ch) ∧ (∀ j, j ≠ d → last' j = last j) ∧ CB nu inF cov (p + 1) = []) ∨ (∃ p' r i last', p + 1 ≤ p' ∧ p' < 6 ∧ (ML nu inF)[i]? = some r ∧ dj cov r = true ∧ r.1 = lof0 cov ∧ CB nu inF cov (p + 1) = r :: CB nu inF cov (p' + 1) ∧ last' d = nI (p' + 1) ∧ (∀ j, j ≠ d → last' j = last j) ∧ fM_ways_L72 F (nI d) (nI (lof0 cov)) m.2.2.2.2 m.2.1 (M' + 1) cov 0 (upd last d (nI (p + 1))) ch = some (cov ||| cs r, 1, last', upd ch d (nI i))) := fun ch => by
      rcases ih (p + 1) (by omega) (M' + 1) (by omega) (upd last d (nI (p + 1))) ch (upd_at _ _ _) with ⟨last', w1, w2, w3⟩ | ⟨p', r, i, last', w1, w2, w3, w4, w5, w6, w7, w8, w9⟩
      · exact Or.inl ⟨last', w1, fun j hj => (w2 j hj).trans (upd_off _ _ hj), w3⟩
      · exact Or.inr ⟨p', r, i, last', w1, w2, w3, w4, w5, w6, w7, fun j hj => (w8 j hj).trans (upd_off _ _ hj), w9⟩
    rcases h5 (6 * lof0 cov + p) (by omega) with ⟨i, r, t1, t2, t3⟩ | ⟨t1, t2⟩
    · obtain ⟨i1, i2, i3, i4, i5, i6⟩ := ML_get t1
      have hx : r ∈ XL nu inF := (ML_perm nu inF).mem_iff.mp i3
      obtain ⟨k1, k2⟩ := key_low i5 hp6 t2
      have e5 : ¬ nI i = (-1 : Int32) := fun e => by
        have := congrArg Int32.toInt e
        rw [nI_toInt (by omega)] at this
        have h9 : (-1 : Int32).toInt = -1 := by decide
        rw [h9] at this
        omega
      have e6 : o_rd 1200 m.2.1 (nI i) = some (cs r) := by rw [o_rd_s (by omega) (by decide), h2 i r t1]
      cases qd : dj cov r with
      | true =>
        have e7 := cs_dj.mpr qd
        right
        refine ⟨p, r, i, upd last d (nI (p + 1)), Nat.le_refl _, hp6, t1, qd, k1, CB_hit hx k1 qd t2, upd_at _ _ _, fun j hj => upd_off _ _ hj, ?_⟩
        have r2 : o_rd 43 (upd last d (nI (p + 1))) (nI d) = some (nI (p + 1)) := by rw [o_rd_s hd (by decide), upd_at]
        have e8 : o_wrI 43 ch (nI d) (nI i) = some (upd ch d (nI i)) := o_wrI_s hd (by decide)
        have first : fM_ways_L72 F (nI d) (nI (lof0 cov)) m.2.2.2.2 m.2.1 (M' + 1 + 1) cov 0 last ch = fM_ways_L72 F (nI d) (nI (lof0 cov)) m.2.2.2.2 m.2.1 (M' + 1) (cov ||| cs r) 1 (upd last d (nI (p + 1))) (upd ch d (nI i)) := by
          conv => lhs; rw [fM_ways_L72]
          simp only [r1, Option.bind_some, e1, if_false, not_true_eq_false, e2, e3, t3, nI_1, e4, e5, e6, e7, e8]
        rw [first]
        conv => lhs; rw [fM_ways_L72]
        simp only [r2, Option.bind_some, show ¬ (1 : Int32) = 0 by decide, not_false_eq_true, if_true]
        split <;> rfl
      | false =>
        have e7 : ¬ (cs r &&& cov) = 0 := fun e => by rw [cs_dj.mp e] at qd; cases qd
        have hcb : CB nu inF cov p = CB nu inF cov (p + 1) := CB_miss (fun r' hr' e => by
          rw [fk_inj (XL_sorted nu inF) hr' hx (e.trans t2.symm)]
          exact qd)
        have first : fM_ways_L72 F (nI d) (nI (lof0 cov)) m.2.2.2.2 m.2.1 (M' + 1 + 1) cov 0 last ch = fM_ways_L72 F (nI d) (nI (lof0 cov)) m.2.2.2.2 m.2.1 (M' + 1) cov 0 (upd last d (nI (p + 1))) ch := by
          conv => lhs; rw [fM_ways_L72]
          simp only [r1, Option.bind_some, e1, if_false, not_true_eq_false, e2, e3, t3, nI_1, e4, e5, e6, e7, not_false_eq_true, if_true]
        rw [first, hcb]
        rcases hnext ch with h | ⟨p', r', i', last', w1, w2, w3, w4, w5, w6, w7, w8, w9⟩
        · exact Or.inl h
        · exact Or.inr ⟨p', r', i', last', by omega, w2, w3, w4, w5, w6, w7, w8, w9⟩
    · have hcb : CB nu inF cov p = CB nu inF cov (p + 1) := CB_miss (fun r' hr' e => absurd e (t1 r' ((ML_perm nu inF).mem_iff.mpr hr')))
      have first : fM_ways_L72 F (nI d) (nI (lof0 cov)) m.2.2.2.2 m.2.1 (M' + 1 + 1) cov 0 last ch = fM_ways_L72 F (nI d) (nI (lof0 cov)) m.2.2.2.2 m.2.1 (M' + 1) cov 0 (upd last d (nI (p + 1))) ch := by
        conv => lhs; rw [fM_ways_L72]
        simp only [r1, Option.bind_some, e1, if_false, not_true_eq_false, e2, e3, t2, nI_1, e4, if_true]
      rw [first, hcb]
      rcases hnext ch with h | ⟨p', r', i', last', w1, w2, w3, w4, w5, w6, w7, w8, w9⟩
      · exact Or.inl h
      · exact Or.inr ⟨p', r', i', last', by omega, w2, w3, w4, w5, w6, w7, w8, w9⟩
/-- what is remembered of a way -/
def RM (inF fi la s : Nat → Int32) (C : List (Nat × Nat)) (co wi : Nat → Int32) : Prop := ∀ k, k < 42 → (∀ r, r ∈ C → inb r.1 r.2 k = true → co k = nI r.1 ∧ wi k = nI (sz r)) ∧ ((∀ r, r ∈ C → inb r.1 r.2 k = false) → co k = s (42 + k) - 1 ∧ (inF k = 1 → ∃ n, wi k = nI n ∧ fBoard_sizeOfField (nI k) fi la = some (nI n)))
def CHm (nu inF : Nat → Int32) (C : List (Nat × Nat)) (ch : Nat → Int32) : Prop := ∀ j r, C[j]? = some r → ∃ i, ch j = nI i ∧ (ML nu inF)[i]? = some r
theorem remember1 (hF : 588 < F) (h : BR nu inF fi la s 0) (hm : MI nu (ML nu inF) m) {C : List (Nat × Nat)} {d i : Nat} {r : Nat × Nat} {ch : Nat → Int32} (hd : d < 43) (hi : ch d = nI i) (hr : (ML nu inF)[i]? = some r) (hdj : ∀ r', r' ∈ C → DJ r' r) {co wi : Nat → Int32} (hR : RM inF fi la s C co wi) : ∃ co' wi', fM_remembers_L70 F (nI d) s ch m.2.1 m.2.2.1 F 0 co wi = some (nI 42, co', wi') ∧ RM inF fi la s (C ++ [r]) co' wi' := by
  obtain ⟨h1, h2, h3, h4, h5⟩ := hm
  obtain ⟨i1, i2, i3, i4, i5, i6⟩ := ML_get hr
  have e1 : o_rd 43 ch (nI d) = some (nI i) := by rw [o_rd_s hd (by decide), hi]
  have e2 : o_rd 1200 m.2.1 (nI i) = some (cs r) := by rw [o_rd_s (by omega) (by decide), h2 i r hr]
  have e3 : o_rd 1200 m.2.2.1 (nI i) = some (nI (own nu r)) := by rw [o_rd_s (by omega) (by decide), h3 i r hr]
  have e4 : fM_lowest F (cs r) = some (nI r.1) := lowest_rect (F := F) (by omega) i5 (tb_cset _)
  have e5 : o_rd 84 s (nI (own nu r)) = some (nI (sz r)) := by
    have := (h (own nu r) i4).2.1
    rw [Nat.zero_add] at this
    rw [o_rd_s (by omega) (by decide), this, (OK_iff.mp i6).2.2]
  obtain ⟨x, hx, e⟩ := lp0 (F := F) 42 (by omega) (fun N k (x : (Nat → Int32) × (Nat → Int32)) => fM_remembers_L70 F (nI d) s ch m.2.1 m.2.2.1 N (nI k) x.1 x.2) (fun x => (nI 42, x)) (fun n x => ∀ k, k < 42 → x.1 k = (if inb r.1 r.2 k = true ∧ k < n then nI r.1 else co k) ∧ x.2 k = (if inb r.1 r.2 k = true ∧ k < n then nI (sz r) else wi k)) (a := (co, wi)) (fun k hk => by rw [if_neg (fun e => by omega), if_neg (fun e => by omega)]; exact ⟨rfl, rfl⟩)
    (fun k x hk hx => by
      have g := ge42 hk
      by_cases q : inb r.1 r.2 k = true
      · refine ⟨(upd x.1 k (nI r.1), upd x.2 k (nI (sz r))), fun j hj => ?_, fun N => ?_⟩
        · by_cases qj : j = k
          · subst qj
            rw [if_pos ⟨q, by omega⟩, if_pos ⟨q, by omega⟩]
            exact ⟨upd_at _ _ _, upd_at _ _ _⟩
          · have : (inb r.1 r.2 j = true ∧ j < k + 1) ↔ (inb r.1 r.2 j = true ∧ j < k) := by
              constructor <;> (intro z; exact ⟨z.1, by omega⟩)
            simp only [upd_off _ _ qj, this]
            exact hx j hj
        · simp only [fM_remembers_L70, g, if_false, e1, e2, e3, e4, e5, Option.bind_some, fM_has_s (show k < 64 by omega), tb_cs hk, q, if_true, show ¬ (1 : Int32) = 0 by decide, o_wrI_s hk (show 42 < 2 ^ 31 by decide), nI_1]
      · refine ⟨x, fun j hj => ?_, fun N => ?_⟩
        · have : (inb r.1 r.2 j = true ∧ j < k + 1) ↔ (inb r.1 r.2 j = true ∧ j < k) := by
            constructor
            · intro z
              refine ⟨z.1, ?_⟩
              have : j ≠ k := fun e => q (e ▸ z.1)
              omega
            · intro z
              exact ⟨z.1, by omega⟩
          simp only [this]
          exact hx j hj
        · simp only [fM_remembers_L70, g, if_false, e1, e2, Option.bind_some, fM_has_s (show k < 64 by omega), tb_cs hk, q, if_true, nI_1, Bool.false_eq_true])
    (fun N x hx => by simp only [fM_remembers_L70, le42, if_true])
  try rw [nI_0] at e
  refine ⟨x.1, x.2, e, fun k hk => ?_⟩
  obtain ⟨x1, x2⟩ := hx k hk
  obtain ⟨r1, r2⟩ := hR k hk
  by_cases q : inb r.1 r.2 k = true
  · rw [if_pos ⟨q, hk⟩] at x1 x2
    refine ⟨fun r' hr' hin => ?_, fun hn => ?_⟩
    · rcases List.mem_append.mp hr' with hr' | hr'
      · exact absurd ⟨hin, q⟩ (hdj r' hr' k hk)
      · rw [List.mem_singleton.mp hr']
        exact ⟨x1, x2⟩
    · rw [hn r (List.mem_append.mpr (Or.inr (List.mem_singleton.mpr rfl)))] at q
      cases q
  · rw [if_neg (fun e => q e.1)] at x1 x2
    refine ⟨fun r' hr' hin => ?_, fun hn => ?_⟩
    · rcases List.mem_append.mp hr' with hr' | hr'
      · rw [x1, x2]
        exact r1 r' hr' hin
      · rw [List.mem_singleton.mp hr'] at hin
        exact absurd hin q
    · rw [x1, x2]
      exact r2 (fun r' hr' => hn r' (List.mem_append.mpr (Or.inl hr')))
theorem remembers_s (hF : 588 < F) (h : BR nu inF fi la s 0) (hm : MI nu (ML nu inF) m) {C : List (Nat × Nat)} (hC : C.length ≤ 42) {ch : Nat → Int32} (hch : CHm nu inF C ch) (hd : C.Pairwise DJ) (co0 wi0 : Nat → Int32) : ∃ co' wi', fM_remembers F (nI C.length) s co0 wi0 ch m.2.1 m.2.2.1 = some (co', wi') ∧ RM inF fi la s C co' wi' := by
  obtain ⟨x, hx, e⟩ := lp0 (F := F) 42 (by omega) (fun N k (x : (Nat → Int32) × (Nat → Int32)) => fM_remembers_L2 F s N (nI k) x.1 x.2) (fun x => (nI 42, x)) (fun n x => ∀ k, k < n → x.1 k = s (42 + k) - 1 ∧ (inF k = 1 → ∃ n, x.2 k = nI n ∧ fBoard_sizeOfField (nI k) fi la = some (nI n))) (a := (co0, wi0)) (fun k hk => by omega)
    (fun k x hk hx => by
      have g := ge42 hk
      have e2 : o_rd 84 s (nI (42 + k)) = some (s (42 + k)) := o_rd_s (by omega) (by decide)
      have hfl := h.fld hk
      rw [Nat.zero_add] at hfl
      by_cases q : inF k = 0
      · have q2 : s (42 + k) ≤ 0 := by
          apply Classical.byContradiction
          intro c
          rw [← hfl] at c
          exact c q
        refine ⟨(upd x.1 k (s (42 + k) - 1), upd x.2 k 0), fun j hj => ?_, fun N => ?_⟩
        · by_cases qj : j = k
          · subst qj
            refine ⟨upd_at _ _ _, fun e => ?_⟩
            rw [q] at e
            cases e
          · simp only [upd_off _ _ qj]
            exact hx j (by omega)
        · simp only [fM_remembers_L2, g, if_false, a42, e2, Option.bind_some, o_wrI_s hk (show 42 < 2 ^ 31 by decide), q2, if_true, nI_1]
      · have q1 : inF k = 1 := (h.inF hk).resolve_left q
        have q2 : ¬ s (42 + k) ≤ 0 := by rw [← hfl]; exact q
        obtain ⟨y, n, -, f1, f2, f3⟩ := h.size (F := F) (by omega) hk q1
        refine ⟨(upd x.1 k (s (42 + k) - 1), upd x.2 k (nI n)), fun j hj => ?_, fun N => ?_⟩
        · by_cases qj : j = k
          · subst qj
            exact ⟨upd_at _ _ _, fun _ => ⟨n, upd_at _ _ _, f3⟩⟩
          · simp only [upd_off _ _ qj]
            exact hx j (by omega)
        · simp only [fM_remembers_L2, g, if_false, a42, e2, Option.bind_some, o_wrI_s hk (show 42 < 2 ^ 31 by decide), q2, f1, f2, nI_1])
    (fun N x hx => by simp only [fM_remembers_L2, le42, if_true])
  obtain ⟨y, hy, e2⟩ := lpl (F := F) C (by omega) (fun N i (y : (Nat → Int32) × (Nat → Int32)) => fM_remembers_L63 F (nI C.length) s ch m.2.1 m.2.2.1 N (nI i) y.1 y.2) (fun y => (nI C.length, y)) (fun l y => RM inF fi la s l y.1 y.2) (a := x) (fun k hk => ⟨fun r hr => (by cases hr), fun _ => hx k hk⟩)
    (fun j r y hr hj hy => by
      obtain ⟨i, hi1, hi2⟩ := hch j r hr
      obtain ⟨co', wi', e1, hR⟩ := remember1 hF h hm (by omega) hi1 hi2 (fun r' hr' => pw_take hd hr hr') hy
      refine ⟨(co', wi'), hR, fun N => ?_⟩
      have g : ¬ nI C.length ≤ nI j := nI_ge hj (by omega)
      simp only [fM_remembers_L63, g, if_false, e1, Option.bind_some, nI_1])
    (fun N y hy => by simp only [fM_remembers_L63, Int32.le_refl, if_true])
  try rw [nI_0] at e
  try rw [nI_0] at e2
  refine ⟨y.1, y.2, ?_, hy⟩
  unfold fM_remembers
  rw [e, Option.bind_some]
  rw [show (fM_remembers_L63 F (nI C.length) s ch m.2.1 m.2.2.1 F 0 (nI 42, x).2.1 (nI 42, x).2.2) = some (nI C.length, y) from e2]
  rfl
noncomputable def bkc (C : List (Nat × Nat)) (cov : Int64) : Int64 := match C[C.length - 1]? with
  | none => cov
  | some r => cov &&& (cs r ^^^ (-1))
theorem bkc_snoc {C : List (Nat × Nat)} {cov : Int64} {r : Nat × Nat} (hb : inB cov) (h : dj cov r = true) : bkc (C ++ [r]) (cov ||| cs r) = cov := by
  have e : (C ++ [r])[(C ++ [r]).length - 1]? = some r := by
    rw [len_snoc, Nat.add_sub_cancel, List.getElem?_append_right (Nat.le_refl _), Nat.sub_self]
    rfl
  unfold bkc
  rw [e]
  refine tb_eq (fun k => ?_)
  show tb ((cov ||| cs r) &&& (cs r ^^^ (-1))) k = _
  by_cases hk : k < 42
  · rw [tb_and, tb_oc hk, tb_not _ (by omega), tb_cs hk]
    cases q : inb r.1 r.2 k with
    | false => simp
    | true => rw [dj_iff.mp h k hk q]; rfl
  · rw [tb_and, tb_or, hb k (by omega), inB_cs' r k (by omega)]
    rfl
/-- going back by one -/
theorem back_s (hm : MI nu (ML nu inF) m) {C : List (Nat × Nat)} (hC : C.length ≤ 42) {ch : Nat → Int32} (hch : CHm nu inF C ch) (cov : Int64) : (if (nI C.length + (-1 : Int32)) < (0 : Int32) then some cov else (o_rd 43 ch (nI C.length + (-1 : Int32))).bind fun v22 => (o_rd 1200 m.2.1 v22).bind fun v23 => some (cov &&& (v23 ^^^ (-1 : Int64)))) = some (bkc C cov) := by
  by_cases q : C.length = 0
  · rw [q]
    have : C = [] := List.eq_nil_of_length_eq_zero q
    subst this
    rfl
  · obtain ⟨e, he⟩ : ∃ e, C.length = e + 1 := ⟨C.length - 1, by omega⟩
    have hr : C[e]? = some C[e] := List.getElem?_eq_getElem (by omega)
    generalize C[e] = r at hr
    obtain ⟨i, hi1, hi2⟩ := hch e r hr
    obtain ⟨i1, i2, -⟩ := ML_get hi2
    rw [he, pk_m1, if_neg (nI_pos (by omega)), o_rd_s (by omega) (by decide), hi1, Option.bind_some, o_rd_s (by omega) (by decide), hm.2.1 i r hi2]
    unfold bkc
    rw [he, Nat.add_sub_cancel, hr]
    rfl
/-- what the search leaves behind of the first way -/
def RO (inF fi la s : Nat → Int32) (n : Nat) (C : List (Nat × Nat)) (L : List (List (Nat × Nat))) (co wi co' wi' : Nat → Int32) : Prop := (n = 0 → ∀ Z, L.head? = some Z → RM inF fi la s (C ++ Z) co' wi') ∧ ((0 < n ∨ L = []) → co' = co ∧ wi' = wi)
theorem RO.app {n : Nat} {C : List (Nat × Nat)} {L1 L2 : List (List (Nat × Nat))} {r : Nat × Nat} {co wi co1 wi1 co2 wi2 : Nat → Int32} (h1 : RO inF fi la s n (C ++ [r]) L1 co wi co1 wi1) (h2 : RO inF fi la s (n + L1.length) C L2 co1 wi1 co2 wi2) : RO inF fi la s n C (L1.map (fun Z => r :: Z) ++ L2) co wi co2 wi2 := by
  obtain ⟨a1, a2⟩ := h1
  obtain ⟨b1, b2⟩ := h2
  refine ⟨fun hn Z hZ => ?_, fun h => ?_⟩
  · cases L1 with
    | nil =>
      obtain ⟨e1, e2⟩ := a2 (Or.inr rfl)
      exact b1 (by rw [hn]; rfl) Z (by simpa using hZ)
    | cons Y t =>
      have : r :: Y = Z := by simpa using hZ
      subst this
      obtain ⟨e1, e2⟩ := b2 (Or.inl (by rw [List.length_cons]; omega))
      have := a1 hn Y rfl
      rw [List.append_assoc] at this
      rw [e1, e2]
      exact this
  · rcases h with h | h
    · obtain ⟨e1, e2⟩ := a2 (Or.inl h)
      obtain ⟨g1, g2⟩ := b2 (Or.inl (by omega))
      exact ⟨g1.trans e1, g2.trans e2⟩
    · obtain ⟨hL1, hL2⟩ := List.append_eq_nil_iff.mp h
      have hL1 := List.map_eq_nil_iff.mp hL1
      obtain ⟨e1, e2⟩ := a2 (Or.inr hL1)
      obtain ⟨g1, g2⟩ := b2 (Or.inr hL2)
      exact ⟨g1.trans e1, g2.trans e2⟩
/-- a stretch of the search: from here, so many turns later -/
def GO (F : Nat) (inF fi la s : Nat → Int32) (m : Int32 × (Nat → Int64) × (Nat → Int32) × (Nat → Int32) × (Nat → Int32)) (most : Nat) (C : List (Nat × Nat)) (cov : Int64) (n : Nat) (L : List (List (Nat × Nat))) (bound : Nat) (last ch co wi : Nat → Int32) : Prop :=
  ∃ (cost : Nat) (last' ch' co' wi' : Nat → Int32), cost ≤ bound ∧ (∀ j, j < C.length → last' j = last j ∧ ch' j = ch j) ∧ RO inF fi la s n C L co wi co' wi' ∧ (n + L.length < most → ∀ N, fM_ways_L22 F (nI most) m.1 m.2.2.2.2 s m.2.1 m.2.2.1 m.2.2.2.1 (N + cost) cov (nI C.length) (nI n) last ch co wi = fM_ways_L22 F (nI most) m.1 m.2.2.2.2 s m.2.1 m.2.2.1 m.2.2.2.1 N (bkc C cov) (nI C.length + (-1)) (nI (n + L.length)) last' ch' co' wi') ∧ (most ≤ n + L.length → ∀ N, fM_ways_L22 F (nI most) m.1 m.2.2.2.2 s m.2.1 m.2.2.1 m.2.2.2.1 (N + cost) cov (nI C.length) (nI n) last ch co wi = some (nI most, m.1, m.2.2.2.2, m.2.1, m.2.2.1, m.2.2.2.1, last', ch', co', wi'))
theorem go_full (hF : 588 < F) (h : BR nu inF fi la s 0) (hm : MI nu (ML nu inF) m) {most : Nat} (hmost : most ≤ 50) {C : List (Nat × Nat)} (hC : C.length ≤ 42) {n : Nat} (hn : n < most) {ch : Nat → Int32} (hch : CHm nu inF C ch) (hd : C.Pairwise DJ) (last co wi : Nat → Int32) : GO F inF fi la s m most C ALL n (FL nu inF ALL) 1 last ch co wi := by
  have eA : ALL = (4398046511103 : Int64) := rfl
  have p1 : ¬ nI C.length < 0 := nI_pos (by omega)
  have hbk := back_s hm hC hch ALL
  rw [FL_full]
  have key : ∀ co' wi', (if ¬ (nI n + (1 : Int32)) = (1 : Int32) then some (co, wi) else (fM_remembers F (nI C.length) s co wi ch m.2.1 m.2.2.1).bind fun s20 => some (s20.1, s20.2)) = some (co', wi') → RO inF fi la s n C [[]] co wi co' wi' → GO F inF fi la s m most C ALL n [[]] 1 last ch co wi := fun co' wi' hk hR => by
    refine ⟨1, last, ch, co', wi', Nat.le_refl _, fun _ _ => ⟨rfl, rfl⟩, hR, fun hlt N => ?_, fun hge N => ?_⟩
    · have e1 : ¬ (nI n + 1) = nI most := fun e => by
        rw [nI_1] at e
        have := nI_inj (by omega) (by omega) e
        simp at hlt
        omega
      rw [fM_ways_L22, if_neg p1, if_neg (not_not_intro eA)]
      rw [show (if ¬ (nI n + (1 : Int32)) = (1 : Int32) then some (co, wi) else (fM_remembers F (nI C.length) s co wi ch m.2.1 m.2.2.1).bind fun s20 => some (s20.1, s20.2)) = some (co', wi') from hk, Option.bind_some, if_pos e1]
      rw [hbk, Option.bind_some, nI_1]
      rfl
    · have e1 : (nI n + 1) = nI most := by
        rw [nI_1]
        simp at hge
        exact congrArg nI (by omega)
      rw [fM_ways_L22, if_neg p1, if_neg (not_not_intro eA)]
      rw [show (if ¬ (nI n + (1 : Int32)) = (1 : Int32) then some (co, wi) else (fM_remembers F (nI C.length) s co wi ch m.2.1 m.2.2.1).bind fun s20 => some (s20.1, s20.2)) = some (co', wi') from hk, Option.bind_some, if_neg (not_not_intro e1), e1]
  by_cases q : n = 0
  · subst q
    obtain ⟨co', wi', e1, hR⟩ := remembers_s hF h hm hC hch hd co wi
    refine key co' wi' ?_ ⟨fun _ Z hZ => ?_, fun h => ?_⟩
    · rw [if_neg (by decide), e1]
      rfl
    · have : [] = Z := by simpa using hZ
      subst this
      rw [List.append_nil]
      exact hR
    · rcases h with h | h
      · omega
      · cases h
  · refine key co wi ?_ ⟨fun e => absurd e q, fun _ => ⟨rfl, rfl⟩⟩
    rw [if_pos]
    intro e
    rw [nI_1] at e
    have := nI_inj (a := n + 1) (b := 1) (by omega) (by decide) e
    omega
theorem notAnd (cov : Int64) {k : Nat} (hk : k < 42) : tb (cov ^^^ (-1)) k = !tb cov k := tb_not cov (by omega)
theorem lowM (hF : 42 < F) (cov : Int64) : fM_lowest F (cov ^^^ (-1)) = some (nI (lof0 cov)) := by
  rw [lowest_cset hF]
  exact congrArg (fun z => some (nI z)) (first_cong (fun k hk => notAnd cov hk))
theorem turn_none (hF : 42 < F) {most n d : Nat} (hd : d < 2 ^ 31) {cov cov' : Int64} (hA : ¬ cov = (4398046511103 : Int64)) {last last' ch co wi : Nat → Int32} (w1 : fM_ways_L72 F (nI d) (nI (lof0 cov)) m.2.2.2.2 m.2.1 F cov 0 last ch = some (cov, 0, last', ch)) (hbk : (if (nI d + (-1 : Int32)) < (0 : Int32) then some cov else (o_rd 43 ch (nI d + (-1 : Int32))).bind fun v22 => (o_rd 1200 m.2.1 v22).bind fun v23 => some (cov &&& (v23 ^^^ (-1 : Int64)))) = some cov') (N : Nat) : fM_ways_L22 F (nI most) m.1 m.2.2.2.2 s m.2.1 m.2.2.1 m.2.2.2.1 (N + 1) cov (nI d) (nI n) last ch co wi = fM_ways_L22 F (nI most) m.1 m.2.2.2.2 s m.2.1 m.2.2.1 m.2.2.2.1 N cov' (nI d + (-1)) (nI n) last' ch co wi := by
  rw [fM_ways_L22, if_neg (nI_pos hd), if_pos hA, lowM hF, Option.bind_some, w1, Option.bind_some]
  show ((if (0 : Int32) = 0 then (if (nI d + (-1 : Int32)) < (0 : Int32) then some cov else (o_rd 43 ch (nI d + (-1 : Int32))).bind fun v22 => (o_rd 1200 m.2.1 v22).bind fun v23 => some (cov &&& (v23 ^^^ (-1 : Int64)))).bind fun j17 => some (j17, (nI d + (-1 : Int32)), last') else _).bind _) = _
  rw [if_pos rfl, hbk, Option.bind_some, Option.bind_some]
theorem turn_hit (hF : 42 < F) {most n d : Nat} (hd : d < 42) {cov cov' : Int64} (hA : ¬ cov = (4398046511103 : Int64)) {last last' ch ch' co wi : Nat → Int32} (w1 : fM_ways_L72 F (nI d) (nI (lof0 cov)) m.2.2.2.2 m.2.1 F cov 0 last ch = some (cov', 1, last', ch')) (N : Nat) : fM_ways_L22 F (nI most) m.1 m.2.2.2.2 s m.2.1 m.2.2.1 m.2.2.2.1 (N + 1) cov (nI d) (nI n) last ch co wi = fM_ways_L22 F (nI most) m.1 m.2.2.2.2 s m.2.1 m.2.2.1 m.2.2.2.1 N cov' (nI (d + 1)) (nI n) (upd last' (d + 1) (nI 0)) ch' co wi := by
  have e5 : o_wrI 43 last' (nI d + 1) (0 : Int32) = some (upd last' (d + 1) (nI 0)) := by
    rw [nI_1]
    exact o_wrI_s (by omega) (by decide)
  rw [fM_ways_L22, if_neg (nI_pos (by omega)), if_pos hA, lowM hF, Option.bind_some, w1, Option.bind_some]
  show ((if (1 : Int32) = 0 then _ else (o_wrI 43 last' (nI d + 1) (0 : Int32)).bind fun w18 => some (cov', (nI d + (1 : Int32)), w18)).bind _) = _
  rw [if_neg (by decide), e5, Option.bind_some, Option.bind_some, nI_1]
theorem cost_le {q p' P c1 c2 : Nat} (h : p' + 1 ≤ 6) (hq : 6 - (p' + 1) + 1 ≤ q) (h1 : c1 ≤ P) (h2 : c2 ≤ (6 - (p' + 1)) * (1 + P) + 1) : c1 + 1 + c2 ≤ q * (1 + P) + 1 := by
  have h3 : (6 - (p' + 1) + 1) * (1 + P) ≤ q * (1 + P) := Nat.mul_le_mul_right _ hq
  rw [Nat.add_mul, Nat.one_mul] at h3
  generalize (6 - (p' + 1)) * (1 + P) = x at h2 h3
  generalize q * (1 + P) = y at h3 ⊢
  omega
theorem cost_le1 {q P c1 : Nat} (hq : 1 ≤ q) (h1 : c1 ≤ P) : c1 + 1 ≤ q * (1 + P) + 1 := by
  have h3 : 1 * (1 + P) ≤ q * (1 + P) := Nat.mul_le_mul_right _ hq
  rw [Nat.one_mul] at h3
  generalize q * (1 + P) = y at h3 ⊢
  omega
theorem cost_6 (D : Nat) : 6 * (1 + 8 ^ (D + 1)) + 1 ≤ 8 ^ (D + 1 + 1) := by
  have h8 : 8 ^ (D + 1 + 1) = 8 * 8 ^ (D + 1) := by rw [Nat.pow_succ, Nat.mul_comm]
  have h9 : 8 ≤ 8 ^ (D + 1) := by
    rw [Nat.pow_succ]
    have : 0 < 8 ^ D := Nat.pow_pos (by decide)
    generalize 8 ^ D = z at this ⊢
    omega
  rw [h8]
  generalize 8 ^ (D + 1) = z at h9 ⊢
  omega
theorem go_s (hF : 588 < F) (h : BR nu inF fi la s 0) (hm : MI nu (ML nu inF) m) {most : Nat} (hmost : most ≤ 50) : ∀ (D : Nat) (cov : Int64), frc cov ≤ D → inB cov → ∀ (C : List (Nat × Nat)) (n : Nat) (last ch co wi : Nat → Int32), n < most → C.length + frc cov ≤ 42 → CHm nu inF C ch → C.Pairwise DJ → (∀ r, r ∈ C → ∀ k, k < 42 → inb r.1 r.2 k = true → tb cov k = true) → last C.length = nI 0 → GO F inF fi la s m most C cov n (FL nu inF cov) (8 ^ (D + 1)) last ch co wi := by
  have mono : ∀ {C cov n L b b' last ch co wi}, b ≤ b' → GO F inF fi la s m most C cov n L b last ch co wi → GO F inF fi la s m most C cov n L b' last ch co wi := fun hb ⟨cost, l', c', o', w', h1, h2⟩ => ⟨cost, l', c', o', w', Nat.le_trans h1 hb, h2⟩
  intro D
  induction D with
  | zero =>
    intro cov hD hb C n last ch co wi hn hC hch hd hcv hl
    have e := (full_iff hb).mpr (Nat.le_zero.mp hD)
    subst e
    exact mono (by decide) (go_full hF h hm hmost (by omega) hn hch hd last co wi)
  | succ D ih =>
    intro cov hD hb C n last ch co wi hn hC hch hd hcv hl
    by_cases hA : cov = ALL
    · subst hA
      exact mono (Nat.pow_pos (by decide)) (go_full hF h hm hmost (by omega) hn hch hd last co wi)
    · have hA' : ¬ cov = (4398046511103 : Int64) := hA
      have hf : frc cov ≠ 0 := fun e => hA ((full_iff hb).mpr e)
      have hdep : C.length < 42 := by omega
      have p1 : ¬ nI C.length < 0 := nI_pos (by omega)
      have inner : ∀ (q p : Nat), p + q = 6 → ∀ (n : Nat) (last ch co wi : Nat → Int32), n < most → CHm nu inF C ch → last C.length = nI p → GO F inF fi la s m most C cov n (FP nu inF cov p) (q * (1 + 8 ^ (D + 1)) + 1) last ch co wi := by
        intro q
        induction q using Nat.strongRecOn with
        | _ q ihq =>
          intro p hp n last ch co wi hn hch hl
          rcases ways72 (F := F) hm hf (d := C.length) (by omega) q p hp F (by omega) last ch hl with ⟨last', w1, w2, w3⟩ | ⟨p', r, i, last', w1, w2, w3, w4, w5, w6, w7, w8, w9⟩
          · have hL : FP nu inF cov p = [] := by unfold FP; rw [w3]; rfl
            rw [hL]
            have hbk := back_s hm (by omega) hch cov
            refine ⟨1, last', ch, co, wi, Nat.le_add_left _ _, fun j hj => ⟨w2 j (by omega), rfl⟩, ⟨fun _ Z hZ => (by cases hZ), fun _ => ⟨rfl, rfl⟩⟩, fun _ N => ?_, fun hge N => ?_⟩
            · exact turn_none (by omega) (by omega) hA' w1 hbk N
            · simp at hge
              omega
          · obtain ⟨i1, i2, i3, i4, i5, i6⟩ := ML_get w3
            have hrX : r ∈ XL nu inF := (ML_perm nu inF).mem_iff.mp i3
            have hstep := frc_step w4
            have hpos := sz_pos i5
            have hL : FP nu inF cov p = (FL nu inF (cov ||| cs r)).map (fun Z => r :: Z) ++ FP nu inF cov (p' + 1) := by
              unfold FP
              rw [w6, List.flatMap_cons]
            have hd2 := dj_iff.mp w4
            have hchr : CHm nu inF (C ++ [r]) (upd ch C.length (nI i)) := fun j r' hr' => by
              by_cases qj : j < C.length
              · rw [List.getElem?_append_left qj] at hr'
                obtain ⟨i', hi1, hi2⟩ := hch j r' hr'
                exact ⟨i', by rw [upd_off _ _ (by omega)]; exact hi1, hi2⟩
              · have hlt := ts_lt hr'
                rw [len_snoc] at hlt
                have : j = C.length := by omega
                subst this
                rw [List.getElem?_append_right (Nat.le_refl _), Nat.sub_self] at hr'
                have : r = r' := by simpa using hr'
                subst this
                exact ⟨i, upd_at _ _ _, w3⟩
            obtain ⟨c1, la1, ch1, co1, wi1, k1, k2, k3, k4, k5⟩ := ih (cov ||| cs r) (by omega) (inB_or hb (inB_cs' r)) (C ++ [r]) n (upd last' (C.length + 1) (nI 0)) (upd ch C.length (nI i)) co wi hn (by rw [len_snoc]; omega) hchr (List.pairwise_append.mpr ⟨hd, List.pairwise_singleton _ _, fun x hx y hy => by
              rw [List.mem_singleton.mp hy]
              rintro k hk ⟨c1, c2⟩
              have := hcv x hx k hk c1
              rw [hd2 k hk c2] at this
              cases this⟩) (fun x hx k hk hik => by
              rw [tb_oc hk]
              rcases List.mem_append.mp hx with hx | hx
              · rw [hcv x hx k hk hik]; rfl
              · rw [List.mem_singleton.mp hx] at hik
                rw [hik, Bool.or_true]) (by rw [len_snoc]; exact upd_at _ _ _)
            have first := fun N => turn_hit (F := F) (s := s) (most := most) (n := n) (co := co) (wi := wi) (by omega) hdep hA' w9 N
            rw [len_snoc] at k2 k4 k5
            have hc' : CHm nu inF C ch1 := fun j r' hr' => by
              obtain ⟨i', hi1, hi2⟩ := hch j r' hr'
              have := ts_lt hr'
              exact ⟨i', by rw [(k2 j (by omega)).2, upd_off _ _ (by omega)]; exact hi1, hi2⟩
            rw [hL]
            by_cases qm : n + (FL nu inF (cov ||| cs r)).length < most
            · have k4 := k4 qm
              have hbk : bkc (C ++ [r]) (cov ||| cs r) = cov := bkc_snoc hb w4
              rw [hbk, pk_m1] at k4
              obtain ⟨c2, la2, ch2, co2, wi2, v1, v2, v3, v4, v5⟩ := ihq (6 - (p' + 1)) (by omega) (p' + 1) (by omega) (n + (FL nu inF (cov ||| cs r)).length) la1 ch1 co1 wi1 qm hc' (by
                rw [(k2 C.length (by omega)).1, upd_off _ _ (by omega)]
                exact w7)
              have hcost : c1 + 1 + c2 ≤ q * (1 + 8 ^ (D + 1)) + 1 := cost_le (by omega) (by omega) k1 v1
              refine ⟨c1 + 1 + c2, la2, ch2, co2, wi2, hcost, fun j hj => ?_, k3.app v3, fun hlt N => ?_, fun hge N => ?_⟩
              · obtain ⟨y1, y2⟩ := v2 j hj
                obtain ⟨y3, y4⟩ := k2 j (by omega)
                refine ⟨?_, ?_⟩
                · rw [y1, y3, upd_off _ _ (by omega)]
                  exact w8 j (by omega)
                · rw [y2, y4, upd_off _ _ (by omega)]
              · rw [show N + (c1 + 1 + c2) = (N + c2 + c1) + 1 by omega, first, k4]
                rw [List.length_append, List.length_map] at hlt
                rw [v4 (by omega), List.length_append, List.length_map, Nat.add_assoc]
              · rw [show N + (c1 + 1 + c2) = (N + c2 + c1) + 1 by omega, first, k4]
                rw [List.length_append, List.length_map] at hge
                exact v5 (by omega) N
            · have k5 := k5 (by omega)
              refine ⟨c1 + 1, la1, ch1, co1, wi1, ?_, fun j hj => ?_, ?_, fun hlt N => ?_, fun hge N => ?_⟩
              · exact cost_le1 (by omega) k1
              · obtain ⟨y3, y4⟩ := k2 j (by omega)
                refine ⟨?_, ?_⟩
                · rw [y3, upd_off _ _ (by omega)]
                  exact w8 j (by omega)
                · rw [y4, upd_off _ _ (by omega)]
              · have hne : 0 < (FL nu inF (cov ||| cs r)).length := by omega
                refine k3.app ⟨fun e => by omega, fun _ => ⟨rfl, rfl⟩⟩
              · rw [List.length_append, List.length_map] at hlt
                omega
              · rw [show N + (c1 + 1) = (N + c1) + 1 by omega, first]
                exact k5 N
      have hFP : FP nu inF cov 0 = FL nu inF cov := by
        unfold FP
        rw [CB_0, FL_rec hb hA]
      have := inner 6 0 rfl n last ch co wi hn hch hl
      rw [hFP] at this
      exact mono (cost_6 D) this
theorem mways_s (hF : 8 ^ 43 < F) (h : BR nu inF fi la s 0) {most : Nat} (hm0 : 0 < most) (hmost : most ≤ 50) (c0 : Int32) (t0 : Nat → Int32) (s0 : Nat → Int64) (o0 d0 la0 ch0 co0 wi0 : Nat → Int32) : ∃ (m : Int32 × (Nat → Int64) × (Nat → Int32) × (Nat → Int32) × (Nat → Int32)) (last' ch' co' wi' : Nat → Int32), MI nu (ML nu inF) m ∧ fM_ways F (nI most) c0 t0 s s0 o0 d0 la0 ch0 co0 wi0 = some (nI (min most (WW nu inF (Tk inF))), m.1, m.2.2.2.2, m.2.1, m.2.2.1, m.2.2.2.1, last', ch', co', wi') ∧ ∀ Z, (FL nu inF (Tk inF)).head? = some Z → RM inF fi la s Z co' wi' := by
  have h43 : 1000000 < 8 ^ 43 := by decide
  obtain ⟨m, hm, em⟩ := finds_s (F := F) (by omega) h c0 t0 s0 o0 d0
  have hb := inB_cset (fun k => decide (inF k ≠ 0))
  obtain ⟨cost, la', ch', co', wi', g1, -, g3, g4, g5⟩ := go_s (F := F) (by omega) h hm hmost 42 (Tk inF) (frc_le _) hb [] 0 (upd la0 0 (nI 0)) ch0 co0 wi0 hm0 (by have := frc_le (Tk inF); simpa using this) (fun j r hr => by rw [List.getElem?_nil] at hr; cases hr) List.Pairwise.nil (fun r hr => by cases hr) (upd_at _ _ _)
  obtain ⟨N, hN⟩ : ∃ N, F = N + 1 + cost := ⟨F - cost - 1, by omega⟩
  have hw : (FL nu inF (Tk inF)).length = WW nu inF (Tk inF) := rfl
  rw [Nat.zero_add, hw] at g4 g5
  refine ⟨m, la', ch', co', wi', hm, ?_, fun Z hZ => ?_⟩
  · unfold fM_ways
    rw [em, Option.bind_some, taken_e (by omega) h, Option.bind_some, show o_wrI 43 la0 (0 : Int32) (0 : Int32) = some (upd la0 0 (nI 0)) from o_wrI_s (i := 0) (by decide) (by decide), Option.bind_some]
    simp only
    have hgo : fM_ways_L22 F (nI most) m.1 m.2.2.2.2 s m.2.1 m.2.2.1 m.2.2.2.1 F (Tk inF) 0 0 (upd la0 0 (nI 0)) ch0 co0 wi0 = fM_ways_L22 F (nI most) m.1 m.2.2.2.2 s m.2.1 m.2.2.1 m.2.2.2.1 (N + 1 + cost) (Tk inF) (nI ([] : List (Nat × Nat)).length) (nI 0) (upd la0 0 (nI 0)) ch0 co0 wi0 := by
      conv => lhs; arg 9; rw [hN]
      rfl
    rw [hgo]
    by_cases q : WW nu inF (Tk inF) < most
    · rw [g4 q, Nat.min_eq_right (by omega)]
      rw [fM_ways_L22]
      rw [if_pos (by decide)]
    · rw [g5 (by omega), Nat.min_eq_left (by omega)]
  · have := g3.1 rfl Z hZ
    exact this
end G
