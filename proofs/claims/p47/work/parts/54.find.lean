/-! THE MATHEMATICS: the lists that the two find. Own text. -/
def XI (nu : Nat → Int32) (l : List (Nat × Nat)) (a : Int32 × (Nat → Int32) × (Nat → Int32) × (Nat → Int64) × (Nat → Int32)) : Prop := a.1 = nI l.length ∧ AG l a.2.1 (fun r => nI r.1) ∧ AG l a.2.2.1 (fun r => nI r.2) ∧ AG l a.2.2.2.1 cs ∧ AG l a.2.2.2.2 (fun r => nI (own nu r))
/-- every rectangle, as the constructor leaves them -/
def EV (ef el : Nat → Int32) (ec : Nat → Int64) : Prop := AG EE ef (fun r => nI r.1) ∧ AG EE el (fun r => nI r.2) ∧ AG EE ec cs
theorem find_s {F : Nat} (hF : 588 < F) {ef el : Nat → Int32} {ec : Nat → Int64} (hE : EV ef el ec) (nu inF : Nat → Int32) (c0 : Int32) (f0 l0 : Nat → Int32) (s0 : Nat → Int64) (o0 : Nat → Int32) : ∃ a, XI nu (XL nu inF) a ∧ fRectangles_find F inF nu c0 ec ef f0 el l0 s0 o0 = some a := by
  obtain ⟨hef, hel, hec⟩ := hE
  obtain ⟨a, ha, e⟩ := lpl EE (by rw [EE_len]; exact hF) (fun N i (a : Int32 × (Nat → Int32) × (Nat → Int32) × (Nat → Int64) × (Nat → Int32)) => fRectangles_find_L19 F (Tk inF) (Nm nu) nu ec ef el N (nI i) a.1 a.2.1 a.2.2.1 a.2.2.2.1 a.2.2.2.2) (fun a => (nI 588, a)) (fun l a => XI nu (l.filter (OK nu inF)) a) (a := ((0 : Int32), f0, l0, s0, o0)) ⟨rfl, AG.nil, AG.nil, AG.nil, AG.nil⟩
    (fun i r a hr hi ha => by
      obtain ⟨h1, h2, h3, h4, h5⟩ := ha
      obtain ⟨c, f, l, s, o⟩ := a
      simp only at h1 h2 h3 h4 h5
      subst h1
      rw [EE_len] at hi
      have hn : ((EE.take i).filter (OK nu inF)).length < 588 := by
        have h1 := List.length_filter_le (OK nu inF) (EE.take i)
        have h2 := List.length_take_le i EE
        omega
      have e1 := ge588 hi
      have e2 : o_rd 588 ec (nI i) = some (cs r) := by rw [o_rd_s hi (by decide), hec i r hr]
      have e3 : o_rd 588 ef (nI i) = some (nI r.1) := by rw [o_rd_s hi (by decide), hef i r hr]
      have e4 : o_rd 588 el (nI i) = some (nI r.2) := by rw [o_rd_s hi (by decide), hel i r hr]
      have e5 : fX_lowestCell (cset (nmb nu r)) = some (nI (own nu r)) := lowest_X _
      have e6 : fJ_bitCount (cset (nmb nu r)) = nI (fb_ct (nmb nu r) 42) := bc_cset _
      generalize hn2 : ((EE.take i).filter (OK nu inF)).length = n at hn h2 h3 h4 h5
      by_cases q : OK nu inF r = true
      · obtain ⟨q1, q2, q3⟩ := OK_iff.mp q
        have g1 : cset (tkn inF r) = 0 := (cset_ct0 _).mpr q1
        have g2 := (OKown q).1
        refine ⟨(nI (n + 1), upd f n (nI r.1), upd l n (nI r.2), vp_updL s n (cs r), upd o n (nI (own nu r))), ?_, fun N => ?_⟩
        · rw [List.filter_append, List.filter_cons_of_pos q, List.filter_nil]
          subst hn2
          exact ⟨by rw [len_snoc], h2.pushI r, h3.pushI r, h4.pushJ r, h5.pushI r⟩
        · have p1 : ¬ nI i < 0 := nI_pos (by omega)
          have p2 : ¬ nI n < 0 := nI_pos (by omega)
          simp only [fRectangles_find_L19, fRectangles_put, e1, if_false, e2, e3, e4, Option.bind_some, cs_Tk, cs_Nm, g1, not_true_eq_false, e6, q2, show nI 1 = (1 : Int32) from rfl, e5, numberIn_s g2, q3, bc_cs, p1, p2, ge588 hn, o_wrI_s hn (show 588 < 2 ^ 31 by decide), o_wrJ_s hn (show 588 < 2 ^ 31 by decide), nI_1]
      · refine ⟨(nI n, f, l, s, o), ?_, fun N => ?_⟩
        · rw [List.filter_append, List.filter_cons_of_neg q, List.filter_nil, List.append_nil]
          subst hn2
          exact ⟨rfl, h2, h3, h4, h5⟩
        · by_cases q1 : fb_ct (tkn inF r) 42 = 0
          · have g1 : cset (tkn inF r) = 0 := (cset_ct0 _).mpr q1
            by_cases q2 : fb_ct (nmb nu r) 42 = 1
            · have g2 : own nu r < 42 := (ct_one q2).1
              have q3 : ¬ nu (own nu r) = nI (sz r) := fun e => q (OK_iff.mpr ⟨q1, q2, e⟩)
              simp only [fRectangles_find_L19, e1, if_false, e2, Option.bind_some, cs_Tk, cs_Nm, g1, not_true_eq_false, e6, q2, show nI 1 = (1 : Int32) from rfl, e5, numberIn_s (nu := nu) g2, bc_cs, q3, not_false_eq_true, if_true, nI_1]
            · have g3 : ¬ nI (fb_ct (nmb nu r) 42) = (1 : Int32) := fun e => q2 (nI_inj (b := 1) (by have := fb_ct_le (nmb nu r) 42; omega) (by decide) e)
              simp only [fRectangles_find_L19, e1, if_false, e2, Option.bind_some, cs_Tk, cs_Nm, g1, not_true_eq_false, e6, g3, not_false_eq_true, if_true, nI_1]
          · have g1 : ¬ cset (tkn inF r) = 0 := fun e => q1 ((cset_ct0 _).mp e)
            simp only [fRectangles_find_L19, e1, if_false, e2, Option.bind_some, cs_Tk, g1, not_false_eq_true, if_true, nI_1])
    (fun N a ha => by
      rw [EE_len]
      simp only [fRectangles_find_L19, show (588 : Int32) ≤ nI 588 from Int32.le_refl _, if_true])
  refine ⟨a, ha, ?_⟩
  unfold fRectangles_find
  rw [cellsInFields_e (by omega), cellsWithNumber_e (by omega), Option.bind_some, Option.bind_some]
  rw [show (fRectangles_find_L19 F (Tk inF) (Nm nu) nu ec ef el F 0 0 f0 l0 s0 o0) = some (nI 588, a) from e]
  rfl
/-! the reference -/
theorem taken_e {F : Nat} (hF : 42 < F) {nu inF fi la s : Nat → Int32} (h : BR nu inF fi la s 0) : fM_taken F s = some (Tk inF) := by
  obtain ⟨x, -, e, -, hx⟩ := h.taken hF
  rw [e, cset_of hx]
  rfl
theorem numbered_e {F : Nat} (hF : 42 < F) {nu inF fi la s : Nat → Int32} (h : BR nu inF fi la s 0) : fM_numbered F s = some (Nm nu) := by
  obtain ⟨x, -, e, -, hx⟩ := h.numbered hF
  rw [e, cset_of hx]
  rfl
theorem rectangle_e {F : Nat} (hF : 42 < F) {t l b r : Nat} (htb : t ≤ b) (hb : b < 6) (hlr : l ≤ r) (hr : r < 7) : fM_rectangle F (nI t) (nI l) (nI b) (nI r) = some (cs (7 * t + l, 7 * b + r)) := by
  obtain ⟨x, e, hx⟩ := rectangle_s hF htb hb hlr hr
  rw [e, cset_of hx]
  rfl
def TI (l : List (Nat × Nat)) (T : Nat → Int32) : Prop := ∀ K, K < 252 → (∃ i r, l[i]? = some r ∧ key r = K ∧ T K = nI i) ∨ ((∀ r, r ∈ l → key r ≠ K) ∧ T K = -1)
theorem TI.push {l : List (Nat × Nat)} {T : Nat → Int32} (h : TI l T) (r : Nat × Nat) : TI (l ++ [r]) (upd T (key r) (nI l.length)) := fun K hK => by
  by_cases q : K = key r
  · subst q
    exact Or.inl ⟨l.length, r, by rw [List.getElem?_append_right (Nat.le_refl _), Nat.sub_self]; rfl, rfl, upd_at _ _ _⟩
  · rw [upd_off _ _ q]
    rcases h K hK with ⟨i, r', h1, h2, h3⟩ | ⟨h1, h2⟩
    · exact Or.inl ⟨i, r', by rw [List.getElem?_append_left (ts_lt h1)]; exact h1, h2, h3⟩
    · refine Or.inr ⟨fun x hx => ?_, h2⟩
      rcases List.mem_append.mp hx with hx | hx
      · exact h1 x hx
      · rw [List.mem_singleton.mp hx]
        exact fun e => q e.symm
def cdO (r : Nat × Nat) : Int32 := nI (42 * r.1 + r.2)
def MI (nu : Nat → Int32) (l : List (Nat × Nat)) (a : Int32 × (Nat → Int64) × (Nat → Int32) × (Nat → Int32) × (Nat → Int32)) : Prop := a.1 = nI l.length ∧ AG l a.2.1 cs ∧ AG l a.2.2.1 (fun r => nI (own nu r)) ∧ AG l a.2.2.2.1 cdO ∧ TI l a.2.2.2.2
theorem LK_in {nu inF : Nat → Int32} {k : Nat} {r : Nat × Nat} (h : r ∈ LK nu inF k) : RC r.1 r.2 ∧ IN k r.1 r.2 ∧ k < 42 := by
  obtain ⟨⟨h1, h2⟩, rfl⟩ := mem_LK.mp h
  exact ⟨h1, inb_iff.mp (OKown h2).2.1, (OKown h2).1⟩
theorem one_bit {k : Nat} (hk : k < 42) : (1 : Int64) <<< ((nI k).toInt64 &&& 63) = cset (fun j => decide (j = k)) := cset_of (fun j => by
  rw [tb_bit (by omega)]
  by_cases q : j = k
  · subst q; rw [decide_eq_true rfl, decide_eq_true hk]; rfl
  · rw [decide_eq_false q, Bool.and_false])
theorem nI_divn {a d : Nat} (ha : a < 2 ^ 31) (h0 : 0 < d) (hd : d < 2 ^ 31) : o_divI (nI a) (nI d) = some (nI (a / d)) := by
  unfold o_divI
  rw [if_neg (nI_ne0 h0 hd), pk_div ha h0 hd]
/-- the one rectangle that the reference looks at, against the list in order -/
theorem LK_at {nu inF : Nat → Int32} {k v t l b : Nat} (hk : k < 42) (hv : nu k = nI v) (hv0 : 0 < v) (hv2 : v ≤ 42) (ht : t ≤ k / 7) (hb : k / 7 ≤ b) (hb6 : b < 6) (hl : l ≤ k % 7) : ((LK nu inF k).filter (fun r => decide (key r = 6 * (7 * t + l) + b)) = [] ∧ ¬ ((v / (b - t + 1)) * (b - t + 1) = v ∧ k % 7 + 1 ≤ l + v / (b - t + 1) ∧ l + v / (b - t + 1) ≤ 7 ∧ cset (nmb nu (7 * t + l, 7 * b + (l + v / (b - t + 1) - 1))) = cset (fun j => decide (j = k)) ∧ cset (tkn inF (7 * t + l, 7 * b + (l + v / (b - t + 1) - 1))) = 0)) ∨ ((LK nu inF k).filter (fun r => decide (key r = 6 * (7 * t + l) + b)) = [(7 * t + l, 7 * b + (l + v / (b - t + 1) - 1))] ∧ own nu (7 * t + l, 7 * b + (l + v / (b - t + 1) - 1)) = k ∧ (v / (b - t + 1)) * (b - t + 1) = v ∧ k % 7 + 1 ≤ l + v / (b - t + 1) ∧ l + v / (b - t + 1) ≤ 7 ∧ cset (nmb nu (7 * t + l, 7 * b + (l + v / (b - t + 1) - 1))) = cset (fun j => decide (j = k)) ∧ cset (tkn inF (7 * t + l, 7 * b + (l + v / (b - t + 1) - 1))) = 0) := by
  generalize hw : v / (b - t + 1) = w
  by_cases q : w * (b - t + 1) = v ∧ k % 7 + 1 ≤ l + w ∧ l + w ≤ 7 ∧ cset (nmb nu (7 * t + l, 7 * b + (l + w - 1))) = cset (fun j => decide (j = k)) ∧ cset (tkn inF (7 * t + l, 7 * b + (l + w - 1))) = 0
  · right
    obtain ⟨q1, q2, q3, q4, q5⟩ := q
    have hr : RC (7 * t + l) (7 * b + (l + w - 1)) := by unfold RC; omega
    have hn : ∀ j, j < 42 → nmb nu (7 * t + l, 7 * b + (l + w - 1)) j = decide (j = k) := fun j hj => cset_inj q4 hj
    obtain ⟨c1, c2⟩ := ct_one_of (p := nmb nu (7 * t + l, 7 * b + (l + w - 1))) (n := 42) hk (by rw [hn k hk, decide_eq_true rfl]) (fun j hj e => by rw [hn j hj, decide_eq_true_eq] at e; exact e)
    have hs : sz (7 * t + l, 7 * b + (l + w - 1)) = v := by
      unfold sz
      rw [rect_ct hr, ← q1]
      have a1 : (7 * b + (l + w - 1)) / 7 = b := by omega
      have a2 : (7 * t + l) / 7 = t := by omega
      have a3 : (7 * b + (l + w - 1)) % 7 = l + w - 1 := by omega
      have a4 : (7 * t + l) % 7 = l := by omega
      have a5 : l + w - 1 - l + 1 = w := by omega
      simp only [a1, a2, a3, a4, a5]
      rw [Nat.mul_comm]
    have hok : OK nu inF (7 * t + l, 7 * b + (l + w - 1)) = true := OK_iff.mpr ⟨(cset_ct0 _).mp q5, c1, by
      show nu (fa_first _ 42) = _
      rw [c2, hs, hv]⟩
    have hm : (7 * t + l, 7 * b + (l + w - 1)) ∈ LK nu inF k := mem_LK.mpr ⟨⟨hr, hok⟩, c2⟩
    have hkey : key (7 * t + l, 7 * b + (l + w - 1)) = 6 * (7 * t + l) + b := by unfold key; simp only; omega
    refine ⟨?_, c2, q1, q2, q3, q4, q5⟩
    have := fk_one (LK_sorted nu inF k) hm
    rw [hkey] at this
    exact this
  · left
    refine ⟨List.filter_eq_nil_iff.mpr (fun r hr e => q ?_), q⟩
    have e := of_decide_eq_true e
    obtain ⟨hrc, hin, -⟩ := LK_in hr
    obtain ⟨⟨-, hok⟩, hown⟩ := mem_LK.mp hr
    obtain ⟨x, y⟩ := r
    unfold key at e
    simp only at e hrc hin
    unfold RC at hrc
    unfold IN at hin
    have hx : x = 7 * t + l := by omega
    have hy : y / 7 = b := by omega
    have hs := (OK_iff.mp hok).2.2
    rw [hown, hv] at hs
    have hs := nI_inj (by omega) (by have := sz_le (x, y); omega) hs
    unfold sz at hs
    have hrc2 : RC x y := by unfold RC; omega
    rw [rect_ct hrc2] at hs
    have a2 : x / 7 = t := by omega
    have a4 : x % 7 = l := by omega
    rw [a2, a4, hy] at hs
    have hw2 : w = y % 7 - l + 1 := by
      rw [← hw, hs, Nat.mul_comm]
      exact Nat.mul_div_cancel _ (by omega)
    have hy2 : y = 7 * b + (l + w - 1) := by omega
    rw [hx, hy2] at hok hown
    obtain ⟨o1, o2, o3, o4⟩ := OKown hok
    rw [hown] at o2 o3 o4
    refine ⟨?_, by omega, by omega, cset_cong (fun j hj => ?_), (cset_ct0 _).mpr (OK_iff.mp hok).1⟩
    · rw [hw2, hs, Nat.mul_comm]
    · by_cases e : j = k
      · subst e
        unfold nmb
        rw [o2, decide_eq_true o3, decide_eq_true rfl]
        rfl
      · rw [decide_eq_false e]
        cases h : nmb nu (7 * t + l, 7 * b + (l + w - 1)) j with
        | false => rfl
        | true =>
          unfold nmb at h
          rw [Bool.and_eq_true, decide_eq_true_eq] at h
          exact absurd (o4 j hj h.1 h.2) e
theorem LK_len {nu inF : Nat → Int32} {k K : Nat} : (MP nu inF k ++ (LK nu inF k).filter (fun r => decide (key r < K))).length ≤ 588 := by
  have h := MP_len nu inF (k + 1)
  have e : MP nu inF (k + 1) = MP nu inF k ++ LK nu inF k := by
    unfold MP
    rw [List.range_succ, List.flatMap_append, List.flatMap_singleton]
  rw [e, List.length_append] at h
  rw [List.length_append]
  have := List.length_filter_le (fun r => decide (key r < K)) (LK nu inF k)
  omega
/-- three loops, the inmost -/
theorem lists3 {F : Nat} (hF : 1200 < F) {nu inF s : Nat → Int32} {k v t l : Nat} (hk : k < 42) (hv : nu k = nI v) (hs : s k = nI v) (hv0 : 0 < v) (hv2 : v ≤ 42) (ht : t ≤ k / 7) (hl : l ≤ k % 7) {a : Int32 × (Nat → Int64) × (Nat → Int32) × (Nat → Int32) × (Nat → Int32)} (h : MI nu (MP nu inF k ++ (LK nu inF k).filter (fun r => decide (key r < 6 * (7 * t + l)))) a) : ∃ a', MI nu (MP nu inF k ++ (LK nu inF k).filter (fun r => decide (key r < 6 * (7 * t + (l + 1))))) a' ∧ fM_lists_L36 F (nI k) (Nm nu) (Tk inF) (nI (k % 7)) (nI t) (nI l) s F (nI (k / 7)) a.1 a.2.1 a.2.2.1 a.2.2.2.1 a.2.2.2.2 = some (nI 6, a') := by
  obtain ⟨a', ⟨-, h'⟩, e⟩ := lp 6 (fun N i (a : Int32 × (Nat → Int64) × (Nat → Int32) × (Nat → Int32) × (Nat → Int32)) => fM_lists_L36 F (nI k) (Nm nu) (Tk inF) (nI (k % 7)) (nI t) (nI l) s N (nI i) a.1 a.2.1 a.2.2.1 a.2.2.2.1 a.2.2.2.2) (fun a => (nI 6, a)) (fun b a => k / 7 ≤ b ∧ MI nu (MP nu inF k ++ (LK nu inF k).filter (fun r => decide (key r < 6 * (7 * t + l) + b))) a)
    (fun b a hb6 ha => by
      obtain ⟨hb, h1, h2, h3, h4, h5⟩ := ha
      obtain ⟨c, s1, o1, c1, t1⟩ := a
      simp only at h1 h2 h3 h4 h5
      subst h1
      have hlen := @LK_len nu inF k (6 * (7 * t + l) + b + 1)
      rw [fk_succ (LK_sorted nu inF k), ← List.append_assoc] at hlen
      have e1 : ¬ (6 : Int32) ≤ nI b := nI_ge (b := 6) hb6 (by decide)
      have e2 : o_rd 84 s (nI k) = some (nI v) := by rw [o_rd_s (show k < 84 by omega) (by decide), hs]
      have e3 : (nI b - nI t) + 1 = nI (b - t + 1) := by rw [pk_sub (by omega), nI_1]
      have e4 : o_divI (nI v) (nI (b - t + 1)) = some (nI (v / (b - t + 1))) := nI_divn (by omega) (by omega) (by omega)
      have hwv : v / (b - t + 1) ≤ v := Nat.div_le_self _ _
      have e5 : (nI (v / (b - t + 1)) * nI (b - t + 1) = nI v) ↔ (v / (b - t + 1)) * (b - t + 1) = v := by
        rw [pk_mul]
        have := Nat.div_mul_le_self v (b - t + 1)
        exact nI_eq (by omega) (by omega)
      rcases LK_at (inF := inF) hk hv hv0 hv2 ht hb hb6 hl with ⟨g1, g2⟩ | ⟨g1, g2, g3, g4, g5, g6, g7⟩
      · refine ⟨(nI (MP nu inF k ++ (LK nu inF k).filter (fun r => decide (key r < 6 * (7 * t + l) + b))).length, s1, o1, c1, t1), ⟨by omega, ?_⟩, fun N => ?_⟩
        · rw [← Nat.add_assoc, fk_succ (LK_sorted nu inF k), g1, List.append_nil]
          exact ⟨rfl, h2, h3, h4, h5⟩
        · by_cases q1 : (v / (b - t + 1)) * (b - t + 1) = v
          · have hw0 : 0 < v / (b - t + 1) := by
              apply Nat.pos_of_ne_zero
              intro z
              rw [z] at q1
              omega
            have e6 : (nI l + nI (v / (b - t + 1))) - 1 = nI (l + v / (b - t + 1) - 1) := by
              rw [nI_add]
              exact pk_sub (b := 1) (by omega)
            by_cases q2 : k % 7 + 1 ≤ l + v / (b - t + 1)
            · have e7 : ¬ nI (l + v / (b - t + 1) - 1) < nI (k % 7) := nI_nlt (by omega) (by omega)
              by_cases q3 : l + v / (b - t + 1) ≤ 7
              · have e8 : ¬ (7 : Int32) ≤ nI (l + v / (b - t + 1) - 1) := nI_ge (b := 7) (by omega) (by decide)
                have e9 := rectangle_e (F := F) (by omega) (show t ≤ b by omega) hb6 (show l ≤ l + v / (b - t + 1) - 1 by omega) (by omega)
                by_cases q4 : cset (nmb nu (7 * t + l, 7 * b + (l + v / (b - t + 1) - 1))) = cset (fun j => decide (j = k))
                · have q5 : ¬ cset (tkn inF (7 * t + l, 7 * b + (l + v / (b - t + 1) - 1))) = 0 := fun e => g2 ⟨q1, q2, q3, q4, e⟩
                  simp only [fM_lists_L36, e1, if_false, e2, Option.bind_some, e3, e4, e5, q1, not_true_eq_false, e6, e7, e8, show ¬ (1 : Int32) = 0 by decide, e9, cs_Nm, cs_Tk, one_bit hk, q4, q5, not_false_eq_true, if_true, nI_1]
                · simp only [fM_lists_L36, e1, if_false, e2, Option.bind_some, e3, e4, e5, q1, not_true_eq_false, e6, e7, e8, show ¬ (1 : Int32) = 0 by decide, e9, cs_Nm, one_bit hk, q4, not_false_eq_true, if_true, nI_1]
              · have e8 : (7 : Int32) ≤ nI (l + v / (b - t + 1) - 1) := nI_le (a := 7) (by omega) (by omega)
                simp only [fM_lists_L36, e1, if_false, e2, Option.bind_some, e3, e4, e5, q1, not_true_eq_false, e6, e7, e8, if_true, nI_1]
            · have e7 : nI (l + v / (b - t + 1) - 1) < nI (k % 7) := nI_lt (by omega) (by omega)
              simp only [fM_lists_L36, e1, if_false, e2, Option.bind_some, e3, e4, e5, q1, not_true_eq_false, e6, e7, if_true, nI_1]
          · simp only [fM_lists_L36, e1, if_false, e2, Option.bind_some, e3, e4, e5, q1, not_false_eq_true, if_true, nI_1]
      · rw [g1, List.length_append, List.length_singleton] at hlen
        generalize hP : MP nu inF k ++ (LK nu inF k).filter (fun r => decide (key r < 6 * (7 * t + l) + b)) = P at hlen h2 h3 h4 h5
        have hw0 : 0 < v / (b - t + 1) := by
          apply Nat.pos_of_ne_zero
          intro z
          rw [z] at g3
          omega
        have e6 : (nI l + nI (v / (b - t + 1))) - 1 = nI (l + v / (b - t + 1) - 1) := by
          rw [nI_add]
          exact pk_sub (b := 1) (by omega)
        have e7 : ¬ nI (l + v / (b - t + 1) - 1) < nI (k % 7) := nI_nlt (by omega) (by omega)
        have e8 : ¬ (7 : Int32) ≤ nI (l + v / (b - t + 1) - 1) := nI_ge (b := 7) (by omega) (by decide)
        have e9 := rectangle_e (F := F) (by omega) (show t ≤ b by omega) hb6 (show l ≤ l + v / (b - t + 1) - 1 by omega) (by omega)
        generalize hW : v / (b - t + 1) = w at *
        have e10 : (((42 : Int32) * (((7 : Int32) * nI t) + nI l)) + ((7 : Int32) * nI b)) + nI (l + w - 1) = cdO (7 * t + l, 7 * b + (l + w - 1)) := by
          unfold cdO
          rw [show (7 : Int32) = nI 7 from rfl, show (42 : Int32) = nI 42 from rfl, pk_mul, pk_mul, nI_add, pk_mul, nI_add, nI_add, Nat.add_assoc]
        have e11 : ((6 : Int32) * (((7 : Int32) * nI t) + nI l)) + nI b = nI (6 * (7 * t + l) + b) := by
          rw [show (7 : Int32) = nI 7 from rfl, show (6 : Int32) = nI 6 from rfl, pk_mul, nI_add, pk_mul, nI_add]
        have e12 : key (7 * t + l, 7 * b + (l + w - 1)) = 6 * (7 * t + l) + b := by unfold key; simp only; omega
        have hn : P.length < 1200 := by omega
        refine ⟨(nI (P.length + 1), vp_updL s1 P.length (cs (7 * t + l, 7 * b + (l + w - 1))), upd o1 P.length (nI k), upd c1 P.length (cdO (7 * t + l, 7 * b + (l + w - 1))), upd t1 (6 * (7 * t + l) + b) (nI P.length)), ⟨by omega, ?_⟩, fun N => ?_⟩
        · rw [← Nat.add_assoc, fk_succ (LK_sorted nu inF k), g1, ← List.append_assoc, hP]
          have h3' := h3.pushI (7 * t + l, 7 * b + (l + w - 1))
          have h5' := h5.push (7 * t + l, 7 * b + (l + w - 1))
          rw [g2] at h3'
          rw [e12] at h5'
          exact ⟨by rw [len_snoc], h2.pushJ _, h3', h4.pushI _, h5'⟩
        · simp only [fM_lists_L36, e1, if_false, e2, Option.bind_some, e3, e4, hW, e5, g3, not_true_eq_false, e6, e7, e8, show ¬ (1 : Int32) = 0 by decide, e9, cs_Nm, cs_Tk, one_bit hk, g6, g7, o_wrJ_s hn (show 1200 < 2 ^ 31 by decide), o_wrI_s hn (show 1200 < 2 ^ 31 by decide), e10, e11, o_wrI_s (show 6 * (7 * t + l) + b < 252 by omega) (show 252 < 2 ^ 31 by decide), nI_1])
    (fun N a ha => by simp only [fM_lists_L36, show (6 : Int32) ≤ nI 6 from Int32.le_refl _, if_true]) (6 - k / 7) (k / 7) F a (by omega) (by omega) ⟨Nat.le_refl _, by
      have e : (LK nu inF k).filter (fun r => decide (key r < 6 * (7 * t + l) + k / 7)) = (LK nu inF k).filter (fun r => decide (key r < 6 * (7 * t + l))) := List.filter_congr (fun r hr => by
        obtain ⟨h1, h2, -⟩ := LK_in hr
        unfold key
        unfold RC at h1
        unfold IN at h2
        by_cases q : 6 * r.1 + r.2 / 7 < 6 * (7 * t + l)
        · rw [decide_eq_true q, decide_eq_true (by omega)]
        · rw [decide_eq_false q, decide_eq_false (by rcases Nat.lt_trichotomy r.1 (7 * t + l) with h | h | h <;> omega)])
      rw [e]
      exact h⟩
  refine ⟨a', ?_, e⟩
  have : 6 * (7 * t + (l + 1)) = 6 * (7 * t + l) + 6 := by omega
  rw [this]
  exact h'
theorem lists2 {F : Nat} (hF : 1200 < F) {nu inF s : Nat → Int32} {k v t : Nat} (hk : k < 42) (hv : nu k = nI v) (hs : s k = nI v) (hv0 : 0 < v) (hv2 : v ≤ 42) (ht : t ≤ k / 7) {a : Int32 × (Nat → Int64) × (Nat → Int32) × (Nat → Int32) × (Nat → Int32)} (h : MI nu (MP nu inF k ++ (LK nu inF k).filter (fun r => decide (key r < 42 * t))) a) : ∃ a', MI nu (MP nu inF k ++ (LK nu inF k).filter (fun r => decide (key r < 42 * (t + 1)))) a' ∧ fM_lists_L25 F (nI k) (Nm nu) (Tk inF) (nI (k / 7)) (nI (k % 7)) (nI t) s F (nI 0) a.1 a.2.1 a.2.2.1 a.2.2.2.1 a.2.2.2.2 = some (nI (k % 7 + 1), a') := by
  obtain ⟨a', h', e⟩ := lp0 (F := F) (k % 7 + 1) (by omega) (fun N i (a : Int32 × (Nat → Int64) × (Nat → Int32) × (Nat → Int32) × (Nat → Int32)) => fM_lists_L25 F (nI k) (Nm nu) (Tk inF) (nI (k / 7)) (nI (k % 7)) (nI t) s N (nI i) a.1 a.2.1 a.2.2.1 a.2.2.2.1 a.2.2.2.2) (fun a => (nI (k % 7 + 1), a)) (fun l a => MI nu (MP nu inF k ++ (LK nu inF k).filter (fun r => decide (key r < 6 * (7 * t + l)))) a) (a := a) (by
      rw [show 6 * (7 * t + 0) = 42 * t by omega]
      exact h)
    (fun l a hl ha => by
      obtain ⟨a', h', e'⟩ := lists3 hF hk hv hs hv0 hv2 ht (by omega : l ≤ k % 7) ha
      refine ⟨a', h', fun N => ?_⟩
      have e1 : ¬ nI (k % 7) < nI l := nI_nlt (by omega) (by omega)
      simp only [fM_lists_L25, e1, if_false, e', Option.bind_some, nI_1])
    (fun N a ha => by simp only [fM_lists_L25, show nI (k % 7) < nI (k % 7 + 1) from nI_lt (by omega) (by omega), if_true])
  refine ⟨a', ?_, e⟩
  have e2 : (LK nu inF k).filter (fun r => decide (key r < 42 * (t + 1))) = (LK nu inF k).filter (fun r => decide (key r < 6 * (7 * t + (k % 7 + 1)))) := List.filter_congr (fun r hr => by
    obtain ⟨h1, h2, -⟩ := LK_in hr
    unfold key
    unfold RC at h1
    unfold IN at h2
    by_cases q : 6 * r.1 + r.2 / 7 < 6 * (7 * t + (k % 7 + 1))
    · rw [decide_eq_true q, decide_eq_true (by omega)]
    · rw [decide_eq_false q, decide_eq_false (by rcases Nat.lt_or_ge t (r.1 / 7) with h | h <;> omega)])
  rw [e2]
  exact h'
theorem lists_s {F : Nat} (hF : 1200 < F) {nu inF s : Nat → Int32} {k v : Nat} (hk : k < 42) (hv : nu k = nI v) (hs : s k = nI v) (hv0 : 0 < v) (hv2 : v ≤ 42) {a : Int32 × (Nat → Int64) × (Nat → Int32) × (Nat → Int32) × (Nat → Int32)} (h : MI nu (MP nu inF k) a) : ∃ a', MI nu (MP nu inF (k + 1)) a' ∧ fM_lists F (nI k) (Nm nu) (Tk inF) s a.1 a.2.1 a.2.2.1 a.2.2.2.1 a.2.2.2.2 = some (a'.2.1, a'.2.2.1, a'.2.2.2.1, a'.2.2.2.2, a'.1) := by
  obtain ⟨a', h', e⟩ := lp0 (F := F) (k / 7 + 1) (by omega) (fun N i (a : Int32 × (Nat → Int64) × (Nat → Int32) × (Nat → Int32) × (Nat → Int32)) => fM_lists_L15 F (nI k) (Nm nu) (Tk inF) (nI (k / 7)) (nI (k % 7)) s N (nI i) a.1 a.2.1 a.2.2.1 a.2.2.2.1 a.2.2.2.2) (fun a => (nI (k / 7 + 1), a)) (fun t a => MI nu (MP nu inF k ++ (LK nu inF k).filter (fun r => decide (key r < 42 * t))) a) (a := a) (by
      rw [List.filter_eq_nil_iff.mpr (fun y _ e => by have := of_decide_eq_true e; omega), List.append_nil]
      exact h)
    (fun t a ht ha => by
      obtain ⟨a', h', e'⟩ := lists2 hF hk hv hs hv0 hv2 (by omega : t ≤ k / 7) ha
      refine ⟨a', h', fun N => ?_⟩
      have e1 : ¬ nI (k / 7) < nI t := nI_nlt (by omega) (by omega)
      try rw [nI_0] at e'
      simp only [fM_lists_L15, e1, if_false, e', Option.bind_some, nI_1])
    (fun N a ha => by simp only [fM_lists_L15, show nI (k / 7) < nI (k / 7 + 1) from nI_lt (by omega) (by omega), if_true])
  refine ⟨a', ?_, ?_⟩
  · have e2 : MP nu inF (k + 1) = MP nu inF k ++ LK nu inF k := by
      unfold MP
      rw [List.range_succ, List.flatMap_append, List.flatMap_singleton]
    rw [List.filter_eq_self.mpr (fun r hr => by
      obtain ⟨h1, h2, -⟩ := LK_in hr
      unfold key
      unfold RC at h1
      unfold IN at h2
      exact decide_eq_true (by omega))] at h'
    rw [e2]
    exact h'
  · unfold fM_lists
    try rw [nI_0] at e
    rw [nI_r7 (by omega), nI_d7 (by omega), e]
    rfl
theorem finds_s {F : Nat} (hF : 1200 < F) {nu inF fi la s : Nat → Int32} (h : BR nu inF fi la s 0) (c0 : Int32) (t0 : Nat → Int32) (s0 : Nat → Int64) (o0 d0 : Nat → Int32) : ∃ a : Int32 × (Nat → Int64) × (Nat → Int32) × (Nat → Int32) × (Nat → Int32), MI nu (ML nu inF) a ∧ fM_finds F c0 t0 s s0 o0 d0 = some (a.1, a.2.2.2.2, a.2.1, a.2.2.1, a.2.2.2.1) := by
  obtain ⟨T, hT, eT⟩ := lp0 (F := F) 252 (by omega) (fun N i (T : Nat → Int32) => fM_finds_L7 F N (nI i) T) (fun T => (nI 252, T)) (fun i T => ∀ K, K < i → T K = -1) (a := t0) (fun K hK => by omega)
    (fun i T hi hT => by
      refine ⟨upd T i (-1), fun K hK => ?_, fun N => ?_⟩
      · by_cases q : K = i
        · subst q; exact upd_at _ _ _
        · rw [upd_off _ _ q]; exact hT K (by omega)
      · simp only [fM_finds_L7, show ¬ (252 : Int32) ≤ nI i from nI_ge (b := 252) hi (by decide), if_false, o_wrI_s hi (show 252 < 2 ^ 31 by decide), Option.bind_some, nI_1])
    (fun N T hT => by simp only [fM_finds_L7, show (252 : Int32) ≤ nI 252 from Int32.le_refl _, if_true])
  obtain ⟨a, ha, e⟩ := lp0 (F := F) 42 (by omega) (fun N i (a : Int32 × (Nat → Int64) × (Nat → Int32) × (Nat → Int32) × (Nat → Int32)) => fM_finds_L40 F (Nm nu) (Tk inF) s N (nI i) a.1 a.2.1 a.2.2.1 a.2.2.2.1 a.2.2.2.2) (fun a => (nI 42, a)) (fun i a => MI nu (MP nu inF i) a) (a := ((0 : Int32), s0, o0, d0, T)) ⟨rfl, AG.nil, AG.nil, AG.nil, fun K hK => Or.inr ⟨fun r hr => (by cases hr), hT K hK⟩⟩
    (fun k a hk ha => by
      have e1 := ge42 hk
      obtain ⟨⟨v, hv, ev⟩, es, hf⟩ := h k hk
      rw [Nat.zero_add] at es hf
      have e2 : o_rd 84 s (nI k) = some (nI v) := by rw [o_rd_s (show k < 84 by omega) (by decide), es, ev]
      have e3 : o_rd 84 s (nI (42 + k)) = some (s (42 + k)) := o_rd_s (by omega) (by decide)
      have e4 : MP nu inF (k + 1) = MP nu inF k ++ LK nu inF k := by
        unfold MP
        rw [List.range_succ, List.flatMap_append, List.flatMap_singleton]
      by_cases q : v = 0
      · subst q
        refine ⟨a, ?_, fun N => ?_⟩
        · have : LK nu inF k = [] := List.eq_nil_iff_forall_not_mem.mpr (fun r hr => by
            obtain ⟨⟨-, h2⟩, h3⟩ := mem_LK.mp hr
            have := (OKown h2).2.2.1
            rw [h3, ev] at this
            exact this rfl)
          rw [e4, this, List.append_nil]
          exact ha
        · simp only [fM_finds_L40, e1, if_false, e2, Option.bind_some, show nI 0 ≤ 0 from Int32.le_refl _, if_true, nI_1]
      · have g1 : ¬ nI v ≤ 0 := nI_nle (by omega) (by omega)
        rcases hf with ⟨hf1, hf2⟩ | ⟨hf1, x, y, hr, hi, hx, hy, hf2, -⟩
        · obtain ⟨a', h', e'⟩ := lists_s hF hk ev (es.trans ev) (by omega) (by omega) ha
          refine ⟨a', h', fun N => ?_⟩
          simp only [fM_finds_L40, e1, if_false, e2, Option.bind_some, g1, a42, e3, hf2, not_true_eq_false, e', nI_1]
        · have g2 : ¬ nI (x + 1) = 0 := nI_ne0 (by omega) (by unfold RC at hr; omega)
          refine ⟨a, ?_, fun N => ?_⟩
          · have : LK nu inF k = [] := List.eq_nil_iff_forall_not_mem.mpr (fun r hr => by
              obtain ⟨⟨-, h2⟩, h3⟩ := mem_LK.mp hr
              have h4 := OKfree h2 (OKown h2).1 (OKown h2).2.1
              rw [h3, hf1] at h4
              cases h4)
            rw [e4, this, List.append_nil]
            exact ha
          · simp only [fM_finds_L40, e1, if_false, e2, Option.bind_some, g1, a42, e3, hf2, g2, not_false_eq_true, if_true, nI_1])
    (fun N a ha => by simp only [fM_finds_L40, le42, if_true])
  refine ⟨a, ha, ?_⟩
  unfold fM_finds
  try rw [nI_0] at eT
  rw [eT, Option.bind_some, numbered_e (by omega) h, taken_e (by omega) h, Option.bind_some, Option.bind_some]
  rw [show (fM_finds_L40 F (Nm nu) (Tk inF) s F 0 0 s0 o0 d0 (nI 252, T).2) = some (nI 42, a) from e]
  rfl
