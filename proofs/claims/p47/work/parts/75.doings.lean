/-! p47, THE MATHEMATICS: the calls that change the board. Printed by wip/gen/stm47.py from its template. Own text. -/
theorem setNumber_e {nu : Nat → Int32} {k : Nat} (hk : k < 42) (v : Int32) : fBoard_setNumber (nI k) v nu = some (upd nu k v) := by
  unfold fBoard_setNumber
  rw [fX_isCell_s hk, Option.bind_some, if_neg (by decide), o_wrI_s hk (by decide)]
  rfl
def HS (a : Nat → Nat) (count : Int32) (saved : Nat → Option Nat) (n q f l : Nat → Nat → Int32) : Prop := ∃ (known : Int32) (before : Nat → Int32), HI a count saved n q f l known before
section DO
variable {F : Nat} {a : Nat → Nat} {count : Int32} {saved : Nat → Option Nat} {n q f l : Nat → Nat → Int32} {nu inF fi la : Nat → Int32} {D : List (Nat × Nat)} {ef el : Nat → Int32} {ec : Nat → Int64} {x y : Int32} {k : Nat}
theorem xsave_s (hF : 504 < F) (ha : ∀ j k, j < 6 → k < 6 → a j = a k → j = k) (hH : HS a count saved n q f l) (h : FB nu inF fi la D) : ∃ (saved' : Nat → Option Nat) (count' : Int32) (n' q' f' l' : Nat → Nat → Int32), fHistory_save F (a 0) (a 1) (a 2) (a 3) (a 4) (a 5) count saved nu (n 0) inF (q 0) fi (f 0) la (l 0) (n 1) (q 1) (f 1) (l 1) (n 2) (q 2) (f 2) (l 2) (n 3) (q 3) (f 3) (l 3) (n 4) (q 4) (f 4) (l 4) (n 5) (q 5) (f 5) (l 5) = some (saved', count', n' 0, q' 0, f' 0, l' 0, n' 1, q' 1, f' 1, l' 1, n' 2, q' 2, f' 2, l' 2, n' 3, q' 3, f' 3, l' 3, n' 4, q' 4, f' 4, l' 4, n' 5, q' 5, f' 5, l' 5) ∧ HS a count' saved' n' q' f' l' := by
  obtain ⟨known, before, hI⟩ := hH
  obtain ⟨saved', count', n', q', f', l', before', known', e1, -, h2⟩ := save_s hF ha hI h.br
  exact ⟨saved', count', n', q', f', l', e1, known', before', h2⟩
theorem write_e (hF : 504 < F) (ha : ∀ j k, j < 6 → k < 6 → a j = a k → j = k) (hH : HS a count saved n q f l) (h : FB nu inF fi la D) {v : Nat} (hk : k < 42) (hv : v ≤ 20) (hc : fX_checkedCell x y = some (nI k)) (hf : inF k = 0) : ∃ (saved' : Nat → Option Nat) (count' : Int32) (n' q' f' l' : Nat → Nat → Int32), fX_write F x y (nI v) (a 0) (a 1) (a 2) (a 3) (a 4) (a 5) inF count saved nu (n 0) (q 0) fi (f 0) la (l 0) (n 1) (q 1) (f 1) (l 1) (n 2) (q 2) (f 2) (l 2) (n 3) (q 3) (f 3) (l 3) (n 4) (q 4) (f 4) (l 4) (n 5) (q 5) (f 5) (l 5) = some ((nu k), saved', count', (n' 0), (q' 0), (f' 0), (l' 0), (n' 1), (q' 1), (f' 1), (l' 1), (n' 2), (q' 2), (f' 2), (l' 2), (n' 3), (q' 3), (f' 3), (l' 3), (n' 4), (q' 4), (f' 4), (l' 4), (n' 5), (q' 5), (f' 5), (l' 5), (upd nu k (nI v))) ∧ HS a count' saved' n' q' f' l' := by
  obtain ⟨saved', count', n', q', f', l', es, hH'⟩ := xsave_s hF ha hH h
  refine ⟨saved', count', n', q', f', l', ?_, hH'⟩
  unfold fX_write
  rw [hc, Option.bind_some, if_neg (nI_pos (by omega)), if_pos (show nI v ≤ (20 : Int32) from nI_le (b := 20) hv (by decide)), hasField_s hk (Or.inl hf), Option.bind_some, if_pos hf, es, Option.bind_some]
  dsimp only
  rw [numberIn_s hk, Option.bind_some, setNumber_e hk, Option.bind_some]
theorem make_e (hF : 1000 < F) (ha : ∀ j k, j < 6 → k < 6 → a j = a k → j = k) (hH : HS a count saved n q f l) (h : FB nu inF fi la D) {sd : Nat} (hsd : sd < 1000000) (mx0 : Int64) (mc0 : Int32) (mf0 ml0 : Nat → Int32) : ∃ (saved' : Nat → Option Nat) (count' : Int32) (n' q' f' l' : Nat → Nat → Int32) (inF' nu' : Nat → Int32) (mx' : Int64) (mc' : Int32) (mf' ml' : Nat → Int32), fX_make F (nI sd) (a 0) (a 1) (a 2) (a 3) (a 4) (a 5) count saved nu (n 0) inF (q 0) fi (f 0) la (l 0) (n 1) (q 1) (f 1) (l 1) (n 2) (q 2) (f 2) (l 2) (n 3) (q 3) (f 3) (l 3) (n 4) (q 4) (f 4) (l 4) (n 5) (q 5) (f 5) (l 5) mx0 mc0 mf0 ml0 = some ((nI (cnu nu')), saved', count', (n' 0), (q' 0), (f' 0), (l' 0), (n' 1), (q' 1), (f' 1), (l' 1), (n' 2), (q' 2), (f' 2), (l' 2), (n' 3), (q' 3), (f' 3), (l' 3), (n' 4), (q' 4), (f' 4), (l' 4), (n' 5), (q' 5), (f' 5), (l' 5), inF', nu', mx', mc', mf', ml') ∧ HS a count' saved' n' q' f' l' ∧ (∀ fi la, FB nu' inF' fi la []) ∧ WW nu' inF' (Tk inF') ≠ 0 := by
  obtain ⟨saved', count', n', q', f', l', es, hH'⟩ := xsave_s (F := F) (by omega) ha hH h
  obtain ⟨inF', nu', mx', mc', mf', ml', em, hn, h0, hw⟩ := xmakes_s hF hsd inF nu mx0 mc0 mf0 ml0
  refine ⟨saved', count', n', q', f', l', inF', nu', mx', mc', mf', ml', ?_, hH', fun fi la => FB_new hn h0 fi la, hw⟩
  unfold fX_make
  rw [if_neg (nI_pos (by omega)), if_pos (show nI sd ≤ (999999 : Int32) from nI_le (b := 999999) (by omega) (by decide)), es, Option.bind_some, em, Option.bind_some]
  dsimp only
  rw [cellsWithNumber_e (by omega), Option.bind_some, show fJ_bitCount (Nm nu') = nI (cnu nu') from bc_cset _]
theorem draw_e (hF : 504 < F) (ha : ∀ j k, j < 6 → k < 6 → a j = a k → j = k) (hH : HS a count saved n q f l) (h : FB nu inF fi la D) {r : Nat × Nat} (hr : r ∈ XL nu inF) : ∃ (saved' : Nat → Option Nat) (count' : Int32) (n' q' f' l' : Nat → Nat → Int32) (inF' fi' la' : Nat → Int32), fX_draw F (nI (r.1 / 7)) (nI (r.1 % 7)) (nI (r.2 / 7)) (nI (r.2 % 7)) (a 0) (a 1) (a 2) (a 3) (a 4) (a 5) nu inF count saved (n 0) (q 0) fi (f 0) la (l 0) (n 1) (q 1) (f 1) (l 1) (n 2) (q 2) (f 2) (l 2) (n 3) (q 3) (f 3) (l 3) (n 4) (q 4) (f 4) (l 4) (n 5) (q 5) (f 5) (l 5) = some ((nI (cif inF')), saved', count', (n' 0), (q' 0), (f' 0), (l' 0), (n' 1), (q' 1), (f' 1), (l' 1), (n' 2), (q' 2), (f' 2), (l' 2), (n' 3), (q' 3), (f' 3), (l' 3), (n' 4), (q' 4), (f' 4), (l' 4), (n' 5), (q' 5), (f' 5), (l' 5), inF', fi', la') ∧ HS a count' saved' n' q' f' l' ∧ FB nu inF' fi' la' (D ++ [r]) := by
  obtain ⟨saved', count', n', q', f', l', es, hH'⟩ := xsave_s hF ha hH h
  obtain ⟨hrc, hOK⟩ := mem_XL.mp hr
  obtain ⟨i', f2, l2, ep, hp⟩ := place_s (F := F) (by omega) hrc.1 hrc.2.1 inF fi la
  have hP : PL ([] ++ [r]) inF fi la i' f2 l2 := (PL.nil inF fi la).snoc (fun r' hr' => by cases hr') hp
  have hB := h.append (C := [] ++ [r]) (fun x hx => by
    rw [List.nil_append, List.mem_singleton] at hx
    rw [hx]; exact ⟨hrc, hOK⟩) (List.pairwise_singleton _ _) hP
  have hb := hrc.1
  have hb2 := hrc.2.1
  have hu := hrc
  unfold RC at hu
  have c1 : fX_checkRectangle (nI (r.1 / 7)) (nI (r.1 % 7)) (nI (r.2 / 7)) (nI (r.2 % 7)) = some () := by
    unfold fX_checkRectangle
    rw [if_neg (nI_pos (by omega)), if_neg (nI_nlt (show r.1 / 7 ≤ r.2 / 7 by omega) (by omega)), if_neg (show ¬ (6 : Int32) ≤ nI (r.2 / 7) from nI_ge (b := 6) (by omega) (by decide)), if_neg (nI_pos (by omega)), if_neg (nI_nlt (show r.1 % 7 ≤ r.2 % 7 by omega) (by omega)), if_pos (show nI (r.2 % 7) < (7 : Int32) from nI_lt (b := 7) (by omega) (by decide))]
  have c2 : ∀ v : Nat, fX_cellAt (nI (v / 7)) (nI (v % 7)) = some (nI v) := fun v => by
    unfold fX_cellAt
    rw [show (7 : Int32) = nI 7 from rfl, nI_mul, nI_add, show v / 7 * 7 + v % 7 = v by omega]
  refine ⟨saved', count', n', q', f', l', i', f2, l2, ?_, hH', hB⟩
  unfold fX_draw
  rw [c1, Option.bind_some, c2, Option.bind_some, c2, Option.bind_some, reason_ok (F := F) (by omega) hrc hOK, Option.bind_some, if_pos rfl, es, Option.bind_some]
  dsimp only
  rw [ep, Option.bind_some]
  dsimp only
  rw [cellsInFields_e (by omega), Option.bind_some, bc_Tk]
theorem erase_e (hF : 504 < F) (ha : ∀ j k, j < 6 → k < 6 → a j = a k → j = k) (hH : HS a count saved n q f l) (h : FB nu inF fi la D) (hk : k < 42) (hc : fX_checkedCell x y = some (nI k)) {r : Nat × Nat} (hr : r ∈ D) (hi : inb r.1 r.2 k = true) : ∃ (saved' : Nat → Option Nat) (count' : Int32) (n' q' f' l' : Nat → Nat → Int32) (inF' : Nat → Int32), fX_erase F x y (a 0) (a 1) (a 2) (a 3) (a 4) (a 5) inF count saved nu (n 0) (q 0) fi (f 0) la (l 0) (n 1) (q 1) (f 1) (l 1) (n 2) (q 2) (f 2) (l 2) (n 3) (q 3) (f 3) (l 3) (n 4) (q 4) (f 4) (l 4) (n 5) (q 5) (f 5) (l 5) = some ((nI (sz r)), saved', count', (n' 0), (q' 0), (f' 0), (l' 0), (n' 1), (q' 1), (f' 1), (l' 1), (n' 2), (q' 2), (f' 2), (l' 2), (n' 3), (q' 3), (f' 3), (l' 3), (n' 4), (q' 4), (f' 4), (l' 4), (n' 5), (q' 5), (f' 5), (l' 5), inF') ∧ HS a count' saved' n' q' f' l' ∧ FB nu inF' fi la (D.filter (fun x => decide (x ≠ r))) := by
  obtain ⟨saved', count', n', q', f', l', es, hH'⟩ := xsave_s hF ha hH h
  obtain ⟨e1, e2, e3⟩ := (h.2.2.2 k hk).1 r hr hi
  obtain ⟨i', er, hi'⟩ := removeField_s (F := F) (by omega) (fi := fi) hk h.bit
  refine ⟨saved', count', n', q', f', l', i', ?_, hH', h.remove hr hk hi hi'⟩
  unfold fX_erase
  rw [checkedField_c hk hc e1, Option.bind_some, es, Option.bind_some]
  dsimp only
  rw [sizeOfField_s hk (h.2.1 r hr).1 e2 e3, Option.bind_some, er, Option.bind_some]
theorem eraseAll_e (hF : 504 < F) (ha : ∀ j k, j < 6 → k < 6 → a j = a k → j = k) (hH : HS a count saved n q f l) (h : FB nu inF fi la D) : ∃ (saved' : Nat → Option Nat) (count' : Int32) (n' q' f' l' : Nat → Nat → Int32) (inF' : Nat → Int32), fX_eraseAll F (a 0) (a 1) (a 2) (a 3) (a 4) (a 5) count saved nu (n 0) inF (q 0) fi (f 0) la (l 0) (n 1) (q 1) (f 1) (l 1) (n 2) (q 2) (f 2) (l 2) (n 3) (q 3) (f 3) (l 3) (n 4) (q 4) (f 4) (l 4) (n 5) (q 5) (f 5) (l 5) = some ((nI D.length), saved', count', (n' 0), (q' 0), (f' 0), (l' 0), (n' 1), (q' 1), (f' 1), (l' 1), (n' 2), (q' 2), (f' 2), (l' 2), (n' 3), (q' 3), (f' 3), (l' 3), (n' 4), (q' 4), (f' 4), (l' 4), (n' 5), (q' 5), (f' 5), (l' 5), inF') ∧ HS a count' saved' n' q' f' l' ∧ FB nu inF' fi la [] := by
  obtain ⟨saved', count', n', q', f', l', es, hH'⟩ := xsave_s hF ha hH h
  obtain ⟨i', er, hi'⟩ := removeFields_s (F := F) (by omega) inF
  refine ⟨saved', count', n', q', f', l', i', ?_, hH', h.clear hi' fi la⟩
  unfold fX_eraseAll
  rw [es, Option.bind_some, countFields_s (by omega), Option.bind_some, h.fields, er, Option.bind_some]
/-- what is certain is drawn: the ways are as many -/
theorem settle_e (hF : 1200 < F) (ha : ∀ j k, j < 6 → k < 6 → a j = a k → j = k) (hH : HS a count saved n q f l) (hE : EV ef el ec) (h : FB nu inF fi la D) {R : Nat} (hR : RT nu inF R) (hcon : con nu inF (rit nu inF R) = false) (c0 : Int32) (f0 l0 : Nat → Int32) (s0 : Nat → Int64) (o0 : Nat → Int32) (op0 nm0 : Int64) (lf0 : Nat → Int32) (rd0 : Int32) (is0 ia0 : Nat → Int64) : ∃ (saved' : Nat → Option Nat) (count' : Int32) (n' q' f' l' : Nat → Nat → Int32) (inF' fi' la' : Nat → Int32) (c' : Int32) (f1 l1 : Nat → Int32) (s1 : Nat → Int64) (o1 : Nat → Int32) (op1 nm1 : Int64) (lf1 : Nat → Int32) (rd1 : Int32) (is1 ia1 : Nat → Int64) (C : List (Nat × Nat)), fX_settle F (a 0) (a 1) (a 2) (a 3) (a 4) (a 5) inF nu c0 ec ef f0 el l0 s0 o0 op0 nm0 lf0 rd0 is0 ia0 count saved (n 0) (q 0) fi (f 0) la (l 0) (n 1) (q 1) (f 1) (l 1) (n 2) (q 2) (f 2) (l 2) (n 3) (q 3) (f 3) (l 3) (n 4) (q 4) (f 4) (l 4) (n 5) (q 5) (f 5) (l 5) = some ((nI C.length), c', f1, l1, s1, o1, op1, nm1, lf1, rd1, is1, ia1, saved', count', (n' 0), (q' 0), (f' 0), (l' 0), (n' 1), (q' 1), (f' 1), (l' 1), (n' 2), (q' 2), (f' 2), (l' 2), (n' 3), (q' 3), (f' 3), (l' 3), (n' 4), (q' 4), (f' 4), (l' 4), (n' 5), (q' 5), (f' 5), (l' 5), inF', fi', la') ∧ HS a count' saved' n' q' f' l' ∧ FB nu inF' fi' la' (D ++ C) ∧ C.length = fb_ct (one nu inF (rit nu inF R)) 42 ∧ WW nu inF' (Tk inF') = WW nu inF (Tk inF) ∧ ∀ c, c < 42 → one nu inF (rit nu inF R) c = true → inF' c = 1 := by
  obtain ⟨z, s1, a1, left1, hz, hl, e⟩ := noContra_e hF hE hR hcon c0 f0 l0 s0 o0 op0 nm0 lf0 rd0 is0 ia0
  obtain ⟨saved', count', n', q', f', l', es, hH'⟩ := xsave_s (F := F) (by omega) ha hH h
  obtain ⟨i', f2, l2, ep, hP⟩ := X_placeCertain (F := F) (by omega) hz hl hR.2 fi la
  have hC : ∀ r, r ∈ (XL nu inF).filter (crt nu inF (rit nu inF R)) → r ∈ XL nu inF ∧ crt nu inF (rit nu inF R) r = true := fun r hr => List.mem_filter.mp hr
  have hpw : ((XL nu inF).filter (crt nu inF (rit nu inF R))).Pairwise DJ := by
    have hnd : ((XL nu inF).filter (crt nu inF (rit nu inF R))).Nodup := (XL_nodup nu inF).filter _
    refine List.Pairwise.imp_of_mem (fun hx hy hne => ?_) hnd
    exact crt_dj hR.2 (hC _ hx).2 (hC _ hy).2 (hC _ hx).1 (hC _ hy).1 hne
  have hB := h.append (fun r hr => mem_XL.mp (hC r hr).1) hpw hP
  have hlen : ((XL nu inF).filter (crt nu inF (rit nu inF R))).length = fb_ct (one nu inF (rit nu inF R)) 42 := by
    rw [← List.countP_eq_length_filter]
    exact crt_cnt
  have hsub : ∀ k, k < 42 → inF k ≠ 0 → i' k ≠ 0 := fun k hk h0 => by
    rcases h.cell hk with ⟨g, -⟩ | ⟨g, r, hr, hi, -, -⟩
    · exact absurd g h0
    · rw [((hB.2.2.2 k hk).1 r (List.mem_append_left _ hr) hi).1]; exact one_n0
  have hTk : Tk i' = cvd inF ((XL nu inF).filter (crt nu inF (rit nu inF R))) := cset_cong (fun k hk => by
    by_cases c1 : ∃ r, r ∈ (XL nu inF).filter (crt nu inF (rit nu inF R)) ∧ inb r.1 r.2 k = true
    · obtain ⟨r, hr, hi⟩ := c1
      rw [((hB.2.2.2 k hk).1 r (List.mem_append_right _ hr) hi).1, List.any_eq_true.mpr ⟨r, hr, hi⟩, Bool.or_true]
      rfl
    · have c2 : ∀ r, r ∈ (XL nu inF).filter (crt nu inF (rit nu inF R)) → inb r.1 r.2 k = false := fun r hr => ts_nt (fun e => c1 ⟨r, hr, e⟩)
      have c3 : ((XL nu inF).filter (crt nu inF (rit nu inF R))).any (fun r => inb r.1 r.2 k) = false := ts_nt (fun e => c1 (List.any_eq_true.mp e))
      rw [((hP k hk).2 c2).1, c3, Bool.or_false])
  have hW : WW nu i' (Tk i') = WW nu inF (Tk inF) := by
    rw [WW_inF hsub (fun k hk h0 => by rw [tb_Tk hk]; exact decide_eq_true h0), hTk]
    exact certain_W (rit_KP R) _ hC hpw
  refine ⟨saved', count', n', q', f', l', i', f2, l2, z.1, z.2.1, z.2.2.1, z.2.2.2.1, z.2.2.2.2, cset (fun k => !decide (inF k ≠ 0)), cset (fun k => decide (nu k ≠ 0) && !decide (inF k ≠ 0)), left1, nI R, s1, a1, (XL nu inF).filter (crt nu inF (rit nu inF R)), ?_, hH', hB, hlen, hW, fun c hc h1 => ?_⟩
  · unfold fX_settle
    rw [e, Option.bind_some, es, Option.bind_some]
    dsimp only
    rw [ep, Option.bind_some, hlen]
  · have h2 : (XL nu inF).countP (lof nu (rit nu inF R) c) = 1 := of_decide_eq_true h1
    obtain ⟨r, hr, hp⟩ := List.countP_pos_iff.mp (show 0 < (XL nu inF).countP (lof nu (rit nu inF R) c) by omega)
    unfold lof at hp
    rw [Bool.and_eq_true, decide_eq_true_eq] at hp
    obtain ⟨o1, o2, -, -⟩ := OKown (mem_XL.mp hr).2
    rw [hp.2] at o2
    exact ((hB.2.2.2 c hc).1 r (List.mem_append_right _ (List.mem_filter.mpr ⟨hr, by unfold crt; rw [hp.1, hp.2, h1]; rfl⟩)) o2).1
/-- the first way is drawn -/
theorem finish_e (hF : 1200 < F) (ha : ∀ j k, j < 6 → k < 6 → a j = a k → j = k) (hH : HS a count saved n q f l) (hE : EV ef el ec) (h : FB nu inF fi la D) {Z : List (Nat × Nat)} (hZ : (FL nu inF (Tk inF)).head? = some Z) (c0 : Int32) (f0 l0 : Nat → Int32) (s0 : Nat → Int64) (o0 wn wi wf wl : Nat → Int32) (li0 wy0 : Int32) (ch0 : Nat → Int32) : ∃ (saved' : Nat → Option Nat) (count' : Int32) (n' q' f' l' : Nat → Nat → Int32) (nu' inF' fi' la' : Nat → Int32) (c' : Int32) (f1 l1 : Nat → Int32) (s1 : Nat → Int64) (o1 wn1 wi1 wf1 wl1 : Nat → Int32) (li1 wy1 : Int32) (ch1 : Nat → Int32), fX_finish F (a 0) (a 1) (a 2) (a 3) (a 4) (a 5) inF nu c0 ec ef f0 el l0 s0 o0 wn wi fi wf la wl li0 wy0 ch0 count saved (n 0) (q 0) (f 0) (l 0) (n 1) (q 1) (f 1) (l 1) (n 2) (q 2) (f 2) (l 2) (n 3) (q 3) (f 3) (l 3) (n 4) (q 4) (f 4) (l 4) (n 5) (q 5) (f 5) (l 5) = some ((nI Z.length), c', f1, l1, s1, o1, wn1, wi1, wf1, wl1, li1, wy1, ch1, saved', count', (n' 0), (q' 0), (f' 0), (l' 0), (n' 1), (q' 1), (f' 1), (l' 1), (n' 2), (q' 2), (f' 2), (l' 2), (n' 3), (q' 3), (f' 3), (l' 3), (n' 4), (q' 4), (f' 4), (l' 4), (n' 5), (q' 5), (f' 5), (l' 5), nu', inF', fi', la') ∧ HS a count' saved' n' q' f' l' ∧ FB nu' inF' fi' la' (D ++ Z) ∧ ∀ k, k < 42 → inF' k = 1 := by
  obtain ⟨z, wn1, wi1, wf1, wl1, li1, wy1, ch1, hw, hP, e⟩ := firstWay_e (F := F) (by omega) hE h hZ c0 f0 l0 s0 o0 wn wi wf wl li0 wy0 ch0
  obtain ⟨saved', count', n', q', f', l', es, hH'⟩ := xsave_s (F := F) (by omega) ha hH h
  have hB := h.append (way_facts hZ).1 (way_facts hZ).2.1 hP
  obtain ⟨nu', i', f2, l2, ec', hcp⟩ := copy_s (F := F) (by omega) wn1 wi1 wf1 wl1 hB.bit nu inF fi la
  have hB2 : FB nu' i' f2 l2 (D ++ Z) := hB.cong (fun k hk => ((hcp k hk).1).trans (hw k hk)) (fun k hk => (hcp k hk).2.1) (fun k hk => (hcp k hk).2.2.1) (fun k hk => (hcp k hk).2.2.2)
  refine ⟨saved', count', n', q', f', l', nu', i', f2, l2, z.1, z.2.1, z.2.2.1, z.2.2.2.1, z.2.2.2.2, wn1, wi1, wf1, wl1, li1, wy1, ch1, ?_, hH', hB2, fun k hk => ?_⟩
  · unfold fX_finish fCellSearch_firstWay
    rw [e, Option.bind_some, es, Option.bind_some]
    dsimp only
    rw [countFields_s (by omega), Option.bind_some, h.fields, Option.bind_some, ec', Option.bind_some]
    dsimp only
    rw [countFields_s (by omega), Option.bind_some, hB2.fields, List.length_append, nI_sub (Nat.le_add_right _ _), Nat.add_sub_cancel_left]
  · obtain ⟨r, hr, hi, -⟩ := way_all h hZ hk
    exact ((hB2.2.2.2 k hk).1 r hr hi).1
end DO
