/-! p47, THE MATHEMATICS: ways as covers, whatever their order; what is ruled out is in no way. Own text. -/
theorem DJ_symm {r r' : Nat × Nat} (h : DJ r r') : DJ r' r := fun k hk e => h k hk ⟨e.2, e.1⟩
theorem dj_all : ∀ {Z : List (Nat × Nat)}, Z.Pairwise DJ → ∀ {x y : Nat × Nat}, x ∈ Z → y ∈ Z → x ≠ y → DJ x y
  | [], _, x, y, hx, _, _ => by cases hx
  | z :: t, h, x, y, hx, hy, hne => by
    obtain ⟨h1, h2⟩ := List.pairwise_cons.mp h
    rcases List.mem_cons.mp hx with e | hx'
    · rcases List.mem_cons.mp hy with e' | hy'
      · exact absurd (e.trans e'.symm) hne
      · rw [e]; exact h1 y hy'
    · rcases List.mem_cons.mp hy with e' | hy'
      · rw [e']; exact DJ_symm (h1 x hx')
      · exact dj_all h2 hx' hy' hne
theorem sm_ge {α : Type} (g : α → Nat) : ∀ {l : List α} {x : α}, x ∈ l → g x ≤ sm l g
  | [], x, h => by cases h
  | y :: t, x, h => by
    rw [sm_cons]
    rcases List.mem_cons.mp h with e | h'
    · rw [e]; exact Nat.le_add_right _ _
    · exact Nat.le_trans (sm_ge g h') (Nat.le_add_left _ _)
theorem sm_only {α : Type} {g : α → Nat} : ∀ {l : List α}, l.Nodup → ∀ {x : α}, x ∈ l → (∀ y, y ∈ l → y ≠ x → g y = 0) → sm l g = g x
  | [], _, x, h, _ => by cases h
  | y :: t, hn, x, h, h0 => by
    obtain ⟨n1, n2⟩ := List.nodup_cons.mp hn
    rw [sm_cons]
    rcases List.mem_cons.mp h with e | h'
    · have e0 : sm t g = 0 := sm_zero (fun z hz => h0 z (List.mem_cons_of_mem _ hz) (fun e2 => n1 (by rw [← e, ← e2]; exact hz)))
      rw [e0, Nat.add_zero, e]
    · have e1 : g y = 0 := h0 y List.mem_cons_self (fun e2 => n1 (by rw [e2]; exact h'))
      rw [e1, Nat.zero_add]
      exact sm_only n2 h' (fun z hz => h0 z (List.mem_cons_of_mem _ hz))
theorem sm_one {α : Type} : ∀ l : List α, sm l (fun _ => 1) = l.length
  | [] => rfl
  | x :: t => by rw [sm_cons, sm_one t, List.length_cons, Nat.add_comm]
theorem sm_append {α : Type} (g : α → Nat) : ∀ l t : List α, sm (l ++ t) g = sm l g + sm t g
  | [], t => by rw [List.nil_append, sm_nil, Nat.zero_add]
  | x :: l, t => by rw [List.cons_append, sm_cons, sm_cons, sm_append g l t, Nat.add_assoc]
section CV
variable {nu inF : Nat → Int32} {Lf : Nat × Nat → Bool}
/-- a set of rectangles that are possible, apart, none of them covered, that fills what is free -/
def CV (nu inF : Nat → Int32) (cov : Int64) (Z : List (Nat × Nat)) : Prop := (∀ r, r ∈ Z → r ∈ XL nu inF ∧ dj cov r = true) ∧ Z.Pairwise DJ ∧ ∀ k, k < 42 → tb cov k = false → ∃ r, r ∈ Z ∧ inb r.1 r.2 k = true
theorem FL_CV : ∀ (n : Nat) (cov : Int64), frc cov = n → inB cov → ∀ Z, Z ∈ FL nu inF cov → CV nu inF cov Z := by
  intro n
  induction n using Nat.strongRecOn with
  | _ n ih =>
    intro cov hn hb Z hZ
    by_cases e : cov = ALL
    · rw [e, FL_full, List.mem_singleton] at hZ
      rw [hZ]
      exact ⟨fun r hr => (by cases hr), List.Pairwise.nil, fun k hk h => by rw [e, tb_ALL, decide_eq_true hk] at h; cases h⟩
    · rw [FL_rec hb e, List.mem_flatMap] at hZ
      obtain ⟨r, hr, hZ1⟩ := hZ
      obtain ⟨Z', hZ', eZ⟩ := List.mem_map.mp hZ1
      rw [← eZ]
      obtain ⟨h1, -, h3⟩ := mem_cnd.mp hr
      have h4 := frc_step h3
      have h5 := sz_pos (mem_XL.mp h1).1
      obtain ⟨c1, c2, c3⟩ := ih _ (by omega) (cov ||| cs r) rfl (inB_or hb (inB_cs' r)) Z' hZ'
      refine ⟨fun x hx => ?_, List.pairwise_cons.mpr ⟨fun x hx => ?_, c2⟩, fun k hk h => ?_⟩
      · rcases List.mem_cons.mp hx with e2 | hx'
        · rw [e2]; exact ⟨h1, h3⟩
        · exact ⟨(c1 x hx').1, (dj_or.mp (c1 x hx').2).1⟩
      · intro k hk q
        have := (dj_or.mp (c1 x hx).2).2 k hk q.2
        rw [q.1] at this
        cases this
      · by_cases q : inb r.1 r.2 k = true
        · exact ⟨r, List.mem_cons_self, q⟩
        · obtain ⟨x, hx, hxk⟩ := c3 k hk (by rw [tb_oc hk, h, Bool.false_or]; exact ts_nt q)
          exact ⟨x, List.mem_cons_of_mem _ hx, hxk⟩
theorem CV_W : ∀ (n : Nat) (cov : Int64), frc cov = n → inB cov → ∀ Z, CV nu inF cov Z → WW nu inF cov ≠ 0 := by
  intro n
  induction n using Nat.strongRecOn with
  | _ n ih =>
    intro cov hn hb Z hZ
    by_cases e : cov = ALL
    · rw [e, WW_full]; exact Nat.one_ne_zero
    · obtain ⟨g1, g2, -⟩ := low_free (fun q => e ((full_iff hb).mpr q))
      obtain ⟨c1, c2, c3⟩ := hZ
      obtain ⟨r, hr, hrk⟩ := c3 _ g1 g2
      obtain ⟨h1, h3⟩ := c1 r hr
      have h4 := frc_step h3
      have h5 := sz_pos (mem_XL.mp h1).1
      have hcv : CV nu inF (cov ||| cs r) (Z.filter (fun x => decide (x ≠ r))) := by
        refine ⟨fun x hx => ?_, c2.filter _, fun k hk h => ?_⟩
        · obtain ⟨hx1, hx2⟩ := List.mem_filter.mp hx
          have hne : x ≠ r := of_decide_eq_true hx2
          refine ⟨(c1 x hx1).1, dj_or.mpr ⟨(c1 x hx1).2, fun k hk hi => ?_⟩⟩
          exact ts_nt (fun hr' => dj_all c2 hx1 hr hne k hk ⟨hi, hr'⟩)
        · rw [tb_oc hk, Bool.or_eq_false_iff] at h
          obtain ⟨x, hx, hxk⟩ := c3 k hk h.1
          refine ⟨x, List.mem_filter.mpr ⟨hx, decide_eq_true (fun e2 => ?_)⟩, hxk⟩
          rw [e2, h.2] at hxk
          cases hxk
      have hw := ih _ (by omega) (cov ||| cs r) rfl (inB_or hb (inB_cs' r)) _ hcv
      rw [WW_low hb e]
      have hge := sm_ge (fun r => if (inb r.1 r.2 (lof0 cov) && dj cov r) = true then WW nu inF (cov ||| cs r) else 0) h1
      simp only [hrk, h3, Bool.and_self, if_true] at hge
      intro h0
      rw [h0] at hge
      exact hw (Nat.le_zero.mp hge)
theorem W_CV {cov : Int64} (hb : inB cov) (h : WW nu inF cov ≠ 0) : ∃ Z, Z ∈ FL nu inF cov ∧ CV nu inF cov Z := by
  unfold WW at h
  cases hl : FL nu inF cov with
  | nil => rw [hl] at h; exact absurd rfl h
  | cons Z t =>
    have hm : Z ∈ FL nu inF cov := by rw [hl]; exact List.mem_cons_self
    exact ⟨Z, by rw [← hl]; exact hm, FL_CV _ cov rfl hb Z hm⟩
theorem tk_free {k : Nat} (hk : k < 42) (h : inF k = 0) : tb (Tk inF) k = false := by
  rw [tb_Tk hk]
  exact decide_eq_false (not_not_intro h)
/-- what is left keeps every way -/
def KP (nu inF : Nat → Int32) (Lf : Nat × Nat → Bool) : Prop := ∀ Z, CV nu inF (Tk inF) Z → ∀ r, r ∈ Z → Lf r = true
theorem CV_own {cov : Int64} {Z : List (Nat × Nat)} (h : CV nu inF cov Z) {r r' : Nat × Nat} (hr : r ∈ Z) (hr' : r' ∈ Z) (e : own nu r = own nu r') : r = r' := by
  apply Classical.byContradiction
  intro hne
  obtain ⟨o1, o2, -, -⟩ := OKown (mem_XL.mp (h.1 r hr).1).2
  obtain ⟨-, p2, -, -⟩ := OKown (mem_XL.mp (h.1 r' hr').1).2
  exact dj_all h.2.1 hr hr' hne (own nu r) o1 ⟨o2, by rw [e]; exact p2⟩
theorem KP_all : KP nu inF (fun _ => true) := fun _ _ _ _ => rfl
theorem KP_nxt (h : KP nu inF Lf) : KP nu inF (nxt nu (XL nu inF) Lf) := by
  intro Z hZ r hr
  have hL := h Z hZ
  obtain ⟨hX, hdj⟩ := hZ.1 r hr
  have hnot : outb nu (XL nu inF) Lf r = false := ts_nt (fun ho => by
    rcases outb_iff.mp ho with ⟨j, hj, s1, s2, s3⟩ | ⟨k, hk, hkr, ⟨j0, hj0, s0⟩, j, hj, s2, s3⟩
    · obtain ⟨x, hx, hxj⟩ := hZ.2.2 j hj (tk_free hj (Sm_free hj s1))
      obtain ⟨q1, q2, q3, q4⟩ := OKown (mem_XL.mp (hZ.1 x hx).1).2
      have hs : Sm nu (XL nu inF) Lf (own nu x) j = true := Sm_iff.mpr ⟨x, (hZ.1 x hx).1, hL x hx, rfl, hxj⟩
      have hxr : own nu x = own nu r := Classical.byContradiction (fun c => by
        rw [s3 _ q1 c] at hs
        cases hs)
      rw [CV_own hZ hx hr hxr, s2] at hxj
      cases hxj
    · obtain ⟨y, hy, hyl, hyo, hyj⟩ := Sm_iff.mp s0
      obtain ⟨q1, q2, q3, q4⟩ := OKown (mem_XL.mp hy).2
      rw [hyo] at q2 q3
      obtain ⟨x, hx, hxk⟩ := hZ.2.2 k hk (tk_free hk (OKfree (mem_XL.mp hy).2 hk q2))
      obtain ⟨p1, p2, p3, p4⟩ := OKown (mem_XL.mp (hZ.1 x hx).1).2
      have hxo : own nu x = k := (p4 k hk hxk q3).symm
      have hxj : inb x.1 x.2 j = true := Al_iff.mp s3 x (hZ.1 x hx).1 (hL x hx) hxo
      have hne : x ≠ r := fun e => hkr (by rw [← hxo, e])
      exact dj_all hZ.2.1 hx hr hne j hj ⟨hxj, s2⟩)
  unfold nxt
  rw [hL r hr, hnot]
  rfl
theorem con_W (h : KP nu inF Lf) (hc : con nu inF Lf = true) : WW nu inF (Tk inF) = 0 := by
  apply Classical.byContradiction
  intro hw
  obtain ⟨Z, -, hZ⟩ := W_CV (inB_Tk inF) hw
  rcases con_iff.mp hc with ⟨k, hk, h1, h2, h3⟩ | ⟨j, hj, h2, h3⟩
  · obtain ⟨x, hx, hxk⟩ := hZ.2.2 k hk (tk_free hk h2)
    obtain ⟨p1, p2, p3, p4⟩ := OKown (mem_XL.mp (hZ.1 x hx).1).2
    have hxo : own nu x = k := (p4 k hk hxk h1).symm
    have hs : Sm nu (XL nu inF) Lf k k = true := Sm_iff.mpr ⟨x, (hZ.1 x hx).1, h Z hZ x hx, hxo, hxk⟩
    rw [h3 k hk] at hs
    cases hs
  · obtain ⟨x, hx, hxj⟩ := hZ.2.2 j hj (tk_free hj h2)
    obtain ⟨p1, p2, p3, p4⟩ := OKown (mem_XL.mp (hZ.1 x hx).1).2
    have hs : Sm nu (XL nu inF) Lf (own nu x) j = true := Sm_iff.mpr ⟨x, (hZ.1 x hx).1, h Z hZ x hx, rfl, hxj⟩
    rw [h3 _ p1] at hs
    cases hs
/-- what is covered, and the rectangles of D -/
noncomputable def cvd (inF : Nat → Int32) (D : List (Nat × Nat)) : Int64 := cset (fun k => decide (inF k ≠ 0) || D.any (fun r => inb r.1 r.2 k))
theorem tb_cvd {D : List (Nat × Nat)} {k : Nat} (hk : k < 42) : tb (cvd inF D) k = (decide (inF k ≠ 0) || D.any (fun r => inb r.1 r.2 k)) := tb_cset' _ hk
theorem cvd_nil : cvd inF [] = Tk inF := cset_cong (fun k hk => by rw [List.any_nil, Bool.or_false])
theorem cvd_cons (r : Nat × Nat) (t : List (Nat × Nat)) : cvd inF (r :: t) = cvd inF t ||| cs r := by
  unfold cvd cs
  rw [cset_or]
  refine cset_cong (fun k hk => ?_)
  rw [List.any_cons, Bool.or_assoc, Bool.or_comm (t.any _)]
theorem inB_cvd (D : List (Nat × Nat)) : inB (cvd inF D) := inB_cset _
theorem cvd_free {D : List (Nat × Nat)} {k : Nat} (hk : k < 42) : tb (cvd inF D) k = false ↔ inF k = 0 ∧ ∀ r, r ∈ D → inb r.1 r.2 k = false := by
  rw [tb_cvd hk, Bool.or_eq_false_iff]
  constructor
  · rintro ⟨h1, h2⟩
    refine ⟨Classical.byContradiction (fun c => ?_), fun r hr => ts_nt (fun e => ?_)⟩
    · rw [decide_eq_true c] at h1; cases h1
    · rw [List.any_eq_true.mpr ⟨r, hr, e⟩] at h2; cases h2
  · rintro ⟨h1, h2⟩
    refine ⟨decide_eq_false (not_not_intro h1), ts_nt (fun e => ?_)⟩
    obtain ⟨r, hr, e2⟩ := List.any_eq_true.mp e
    rw [h2 r hr] at e2
    cases e2
/-- a rectangle that is certain is in every way: the ways are as many when it is drawn -/
theorem certain_W (hK : KP nu inF Lf) : ∀ D : List (Nat × Nat), (∀ r, r ∈ D → r ∈ XL nu inF ∧ crt nu inF Lf r = true) → D.Pairwise DJ → WW nu inF (cvd inF D) = WW nu inF (Tk inF)
  | [], _, _ => by rw [cvd_nil]
  | r :: t, hD, hp => by
    obtain ⟨hp1, hp2⟩ := List.pairwise_cons.mp hp
    have hD2 : ∀ x, x ∈ t → x ∈ XL nu inF ∧ crt nu inF Lf x = true := fun x hx => hD x (List.mem_cons_of_mem _ hx)
    rw [← certain_W hK t hD2 hp2, cvd_cons]
    obtain ⟨hX, hc⟩ := hD r List.mem_cons_self
    have hOK := (mem_XL.mp hX).2
    obtain ⟨o1, o2, o3, o4⟩ := OKown hOK
    have hfree : tb (cvd inF t) (own nu r) = false := (cvd_free o1).mpr ⟨OKfree hOK o1 o2, fun x hx => ts_nt (fun e => hp1 x hx _ o1 ⟨o2, e⟩)⟩
    have hdj : dj (cvd inF t) r = true := dj_iff.mpr (fun k hk hi => (cvd_free hk).mpr ⟨OKfree hOK hk hi, fun x hx => ts_nt (fun e => hp1 x hx k hk ⟨hi, e⟩)⟩)
    rw [WW_num (inB_cvd t) o1 hfree o3]
    rw [sm_only (XL_nodup nu inF) hX (fun y hy hne => ?_)]
    · simp only [eq_self, decide_true, hdj, Bool.and_self, if_true]
    · show (if (decide (own nu y = own nu r) && dj (cvd inF t) y) = true then WW nu inF (cvd inF t ||| cs y) else 0) = 0
      by_cases q : (decide (own nu y = own nu r) && dj (cvd inF t) y) = true
      · rw [if_pos q]
        rw [Bool.and_eq_true, decide_eq_true_eq] at q
        apply Classical.byContradiction
        intro hw
        obtain ⟨Z, -, hZ⟩ := W_CV (inB_or (inB_cvd t) (inB_cs' y)) hw
        have hyf := dj_iff.mp q.2
        have hcv : CV nu inF (Tk inF) (y :: (t ++ Z)) := by
          refine ⟨fun x hx => ?_, List.pairwise_cons.mpr ⟨fun x hx => ?_, List.pairwise_append.mpr ⟨hp2, hZ.2.1, fun x hx z hz => ?_⟩⟩, fun k hk h => ?_⟩
          · have hxX : x ∈ XL nu inF := by
              rcases List.mem_cons.mp hx with e | hx'
              · rw [e]; exact hy
              · rcases List.mem_append.mp hx' with h1 | h1
                · exact (hD2 x h1).1
                · exact (hZ.1 x h1).1
            exact ⟨hxX, dj_iff.mpr (fun k hk hi => tk_free hk (OKfree (mem_XL.mp hxX).2 hk hi))⟩
          · rcases List.mem_append.mp hx with h1 | h1
            · intro k hk e
              have := ((cvd_free hk).mp (hyf k hk e.1)).2 x h1
              rw [e.2] at this; cases this
            · intro k hk e
              have := (dj_or.mp (hZ.1 x h1).2).2 k hk e.2
              rw [e.1] at this; cases this
          · intro k hk e
            have := ((cvd_free hk).mp (dj_iff.mp (dj_or.mp (hZ.1 z hz).2).1 k hk e.2)).2 x hx
            rw [e.1] at this; cases this
          · by_cases c1 : inb y.1 y.2 k = true
            · exact ⟨y, List.mem_cons_self, c1⟩
            · by_cases c2 : ∃ x, x ∈ t ∧ inb x.1 x.2 k = true
              · obtain ⟨x, hx, hxk⟩ := c2
                exact ⟨x, List.mem_cons_of_mem _ (List.mem_append_left _ hx), hxk⟩
              · have hf2 : inF k = 0 := Classical.byContradiction (fun c => by
                  rw [tb_Tk hk, decide_eq_true c] at h
                  cases h)
                obtain ⟨z, hz, hzk⟩ := hZ.2.2 k hk (by
                  rw [tb_oc hk, Bool.or_eq_false_iff]
                  exact ⟨(cvd_free hk).mpr ⟨hf2, fun x hx => ts_nt (fun e => c2 ⟨x, hx, e⟩)⟩, ts_nt c1⟩)
                exact ⟨z, List.mem_cons_of_mem _ (List.mem_append_right _ hz), hzk⟩
        exact hne (crt_one hc hX hy (hK _ hcv y List.mem_cons_self) q.1)
      · rw [if_neg q]
end CV
section FI
variable {nu inF inF' : Nat → Int32}
/-- the ways that are left, told of a board with more fields -/
theorem cnd_inF (h1 : ∀ k, k < 42 → inF k ≠ 0 → inF' k ≠ 0) {cov : Int64} (h2 : ∀ k, k < 42 → inF' k ≠ 0 → tb cov k = true) : cnd nu inF' cov = cnd nu inF cov := by
  unfold cnd XL
  rw [List.filter_filter, List.filter_filter]
  refine List.filter_congr (fun r hr => ?_)
  cases q : dj cov r with
  | false => simp only [Bool.and_false, Bool.false_and]
  | true =>
    have q' := dj_iff.mp q
    have z' : ∀ k, k < 42 → inb r.1 r.2 k = true → inF' k = 0 := fun k hk hi => Classical.byContradiction (fun c => by
      have := q' k hk hi
      rw [h2 k hk c] at this
      cases this)
    have e1 : fb_ct (tkn inF' r) 42 = 0 := fb_ct_zero.mpr (fun k hk => ts_nt (fun e => by
      unfold tkn at e
      rw [Bool.and_eq_true, decide_eq_true_eq] at e
      exact e.2 (z' k hk e.1)))
    have e2 : fb_ct (tkn inF r) 42 = 0 := fb_ct_zero.mpr (fun k hk => ts_nt (fun e => by
      unfold tkn at e
      rw [Bool.and_eq_true, decide_eq_true_eq] at e
      exact h1 k hk e.2 (z' k hk e.1)))
    unfold OK
    rw [e1, e2]
theorem fils_inF (h1 : ∀ k, k < 42 → inF k ≠ 0 → inF' k ≠ 0) : ∀ (D : Nat) (cov : Int64), (∀ k, k < 42 → inF' k ≠ 0 → tb cov k = true) → fils nu inF' D cov = fils nu inF D cov
  | 0, cov, _ => rfl
  | D + 1, cov, h2 => by
    rw [fils, fils, cnd_inF h1 h2]
    by_cases e : cov = ALL
    · rw [if_pos e, if_pos e]
    · rw [if_neg e, if_neg e, List.flatMap_def, List.flatMap_def]
      refine congrArg List.flatten (List.map_congr_left (fun r hr => ?_))
      rw [fils_inF h1 D (cov ||| cs r) (fun k hk h => by rw [tb_oc hk, h2 k hk h, Bool.true_or])]
theorem FL_inF (h1 : ∀ k, k < 42 → inF k ≠ 0 → inF' k ≠ 0) {cov : Int64} (h2 : ∀ k, k < 42 → inF' k ≠ 0 → tb cov k = true) : FL nu inF' cov = FL nu inF cov := fils_inF h1 43 cov h2
theorem WW_inF (h1 : ∀ k, k < 42 → inF k ≠ 0 → inF' k ≠ 0) {cov : Int64} (h2 : ∀ k, k < 42 → inF' k ≠ 0 → tb cov k = true) : WW nu inF' cov = WW nu inF cov := congrArg List.length (FL_inF h1 h2)
end FI
