/-! THE MATHEMATICS: what speaks against a rectangle; a field is drawn. Own text. -/
section CD
variable {F L i : Nat} {xs nu inF fi la s : Nat → Int32} {arr : Nat → Int64} {th : Int32}
theorem in_dec (x lo hi : Int32) : fM_in x lo hi = some (if lo.toInt ≤ x.toInt ∧ x.toInt ≤ hi.toInt then (1 : Int32) else 0) := by
  unfold fM_in
  by_cases c1 : x < lo
  · rw [if_pos c1, if_neg]
    rw [Int32.lt_iff_toInt_lt] at c1
    omega
  · rw [if_neg c1]
    rw [Int32.lt_iff_toInt_lt] at c1
    by_cases c2 : hi < x
    · rw [if_pos c2, if_neg]
      rw [Int32.lt_iff_toInt_lt] at c2
      omega
    · rw [if_neg c2, if_pos]
      rw [Int32.lt_iff_toInt_lt] at c2
      omega
def GR (t l b r : Int32) : Prop := 0 ≤ t.toInt ∧ t.toInt ≤ b.toInt ∧ b.toInt < 6 ∧ 0 ≤ l.toInt ∧ l.toInt ≤ r.toInt ∧ r.toInt < 7
theorem nI_of_toInt {x : Int32} (h : 0 ≤ x.toInt) : x = nI x.toInt.toNat := by
  apply Int32.toInt_inj.mp
  have h2 : x.toInt < 2 ^ 31 := x.toInt_lt
  rw [nI_toInt (by omega)]
  omega
theorem rect_X (t l b r : Int32) : (GR t l b r ∧ fX_checkRectangle t l b r = some 0) ∨ (¬ GR t l b r ∧ fX_checkRectangle t l b r = some 1) := by
  have t0 : (0 : Int32).toInt = 0 := by decide
  have t6 : (6 : Int32).toInt = 6 := by decide
  have t7 : (7 : Int32).toInt = 7 := by decide
  unfold fX_checkRectangle GR
  by_cases c1 : t < 0
  · rw [if_pos c1]
    rw [Int32.lt_iff_toInt_lt] at c1
    exact Or.inr ⟨by omega, rfl⟩
  by_cases c2 : b < t
  · rw [if_neg c1, if_pos c2]
    rw [Int32.lt_iff_toInt_lt] at c2
    exact Or.inr ⟨by omega, rfl⟩
  by_cases c3 : (6 : Int32) ≤ b
  · rw [if_neg c1, if_neg c2, if_pos c3]
    rw [Int32.le_iff_toInt_le] at c3
    exact Or.inr ⟨by omega, rfl⟩
  by_cases c4 : l < 0
  · rw [if_neg c1, if_neg c2, if_neg c3, if_pos c4]
    rw [Int32.lt_iff_toInt_lt] at c4
    exact Or.inr ⟨by omega, rfl⟩
  by_cases c5 : r < l
  · rw [if_neg c1, if_neg c2, if_neg c3, if_neg c4, if_pos c5]
    rw [Int32.lt_iff_toInt_lt] at c5
    exact Or.inr ⟨by omega, rfl⟩
  by_cases c6 : r < 7
  · rw [if_neg c1, if_neg c2, if_neg c3, if_neg c4, if_neg c5, if_pos c6]
    rw [Int32.lt_iff_toInt_lt] at c1 c2 c4 c5 c6
    rw [Int32.le_iff_toInt_le] at c3
    exact Or.inl ⟨by omega, rfl⟩
  · rw [if_neg c1, if_neg c2, if_neg c3, if_neg c4, if_neg c5, if_neg c6]
    rw [Int32.lt_iff_toInt_lt] at c6
    exact Or.inr ⟨by omega, rfl⟩
theorem rect_M (t l b r : Int32) : fM_isRectangle t l b r = some (if 0 ≤ t.toInt ∧ t.toInt ≤ b.toInt ∧ b.toInt < 6 ∧ 0 ≤ l.toInt ∧ l.toInt ≤ r.toInt ∧ r.toInt < 7 then (1 : Int32) else 0) := by
  have t0 : (0 : Int32).toInt = 0 := by decide
  have t5 : (5 : Int32).toInt = 5 := by decide
  have t6 : (6 : Int32).toInt = 6 := by decide
  unfold fM_isRectangle fM_isCell
  rw [in_dec, in_dec, in_dec, in_dec, t0, t5, t6]
  by_cases c1 : 0 ≤ t.toInt ∧ t.toInt ≤ 5
  · by_cases c2 : 0 ≤ l.toInt ∧ l.toInt ≤ 6
    · by_cases c3 : t.toInt ≤ b.toInt ∧ b.toInt ≤ 5
      · by_cases c4 : l.toInt ≤ r.toInt ∧ r.toInt ≤ 6
        · rw [if_pos c1, if_pos c2, if_pos c3, if_pos c4, if_pos (show (0 ≤ t.toInt ∧ t.toInt ≤ b.toInt ∧ b.toInt < 6 ∧ 0 ≤ l.toInt ∧ l.toInt ≤ r.toInt ∧ r.toInt < 7) by omega)]
          rfl
        · rw [if_pos c1, if_pos c2, if_pos c3, if_neg c4, if_neg (show ¬ (0 ≤ t.toInt ∧ t.toInt ≤ b.toInt ∧ b.toInt < 6 ∧ 0 ≤ l.toInt ∧ l.toInt ≤ r.toInt ∧ r.toInt < 7) by omega)]
          rfl
      · rw [if_pos c1, if_pos c2, if_neg c3, if_neg (show ¬ (0 ≤ t.toInt ∧ t.toInt ≤ b.toInt ∧ b.toInt < 6 ∧ 0 ≤ l.toInt ∧ l.toInt ≤ r.toInt ∧ r.toInt < 7) by omega)]
        rfl
    · rw [if_pos c1, if_neg c2, if_neg (show ¬ (0 ≤ t.toInt ∧ t.toInt ≤ b.toInt ∧ b.toInt < 6 ∧ 0 ≤ l.toInt ∧ l.toInt ≤ r.toInt ∧ r.toInt < 7) by omega)]
      rfl
  · rw [if_neg c1, if_neg (show ¬ (0 ≤ t.toInt ∧ t.toInt ≤ b.toInt ∧ b.toInt < 6 ∧ 0 ≤ l.toInt ∧ l.toInt ≤ r.toInt ∧ r.toInt < 7) by omega)]
    rfl
theorem rect_cases (t l b r : Int32) : (fX_checkRectangle t l b r = some 1 ∧ fM_isRectangle t l b r = some 0) ∨ ∃ T C B R, T ≤ B ∧ B < 6 ∧ C ≤ R ∧ R < 7 ∧ t = nI T ∧ l = nI C ∧ b = nI B ∧ r = nI R ∧ fX_checkRectangle t l b r = some 0 ∧ fM_isRectangle t l b r = some 1 := by
  have hM := rect_M t l b r
  rcases rect_X t l b r with ⟨h, e⟩ | ⟨h, e⟩
  · unfold GR at h
    rw [if_pos h] at hM
    exact Or.inr ⟨t.toInt.toNat, l.toInt.toNat, b.toInt.toNat, r.toInt.toNat, by omega, by omega, by omega, by omega, nI_of_toInt (by omega), nI_of_toInt (by omega), nI_of_toInt (by omega), nI_of_toInt (by omega), e, hM⟩
  · unfold GR at h
    rw [if_neg h] at hM
    exact Or.inl ⟨e, hM⟩
theorem taken_X (hF : 42 < F) (h : BR nu inF fi la s 0) : fBoard_cellsInFields F inF = some (Tk inF) := by
  obtain ⟨x, e1, e2, -, -⟩ := h.taken hF
  rw [e1, ← e2, taken_e hF h]
theorem numbered_X (hF : 42 < F) (h : BR nu inF fi la s 0) : fBoard_cellsWithNumber F nu = some (Nm nu) := by
  obtain ⟨x, e1, e2, -, -⟩ := h.numbered hF
  rw [e1, ← e2, numbered_e hF h]
theorem reason_s (hF : 42 < F) (h : BR nu inF fi la s 0) {a b : Nat} (hr : RC a b) : ∃ v : Int32, fBoard_reason F (nI a) (nI b) nu inF = some v ∧ fM_against F (cs (a, b)) s = some v ∧ (v = 0 → ∀ k, IN k a b → inF k = 0) := by
  obtain ⟨x, e1, e2⟩ := cellsOf_s hF hr.1 hr.2.1
  obtain rfl : x = cs (a, b) := cset_of e2
  unfold fBoard_reason fM_against
  rw [e1, taken_X hF h, numbered_X hF h, taken_e hF h, numbered_e hF h]
  simp only [Option.bind_some]
  by_cases c1 : cs (a, b) &&& Tk inF = 0
  · rw [if_pos c1, if_pos c1]
    have hfree : ∀ k, IN k a b → inF k = 0 := by
      intro k hk
      have hk2 : k < 42 := by unfold IN at hk; unfold RC at hr; omega
      unfold cs Tk at c1
      rw [cset_and] at c1
      have := (cset_0 _).mp c1 k hk2
      have e : inb a b k = true := by
        unfold inb
        unfold IN at hk
        simp only [hk.1, hk.2.1, hk.2.2.1, hk.2.2.2, decide_true, Bool.and_true]
      rw [e, Bool.true_and, decide_eq_false_iff_not] at this
      exact Decidable.not_not.mp this
    have eN : cs (a, b) &&& Nm nu = cset (fun k => inb a b k && decide (nu k ≠ 0)) := by
      unfold cs Nm
      rw [cset_and]
    rw [eN, bc_cset, bits_cset hF]
    have hct : fb_ct (fun k => inb a b k && decide (nu k ≠ 0)) 42 ≤ 42 := fb_ct_le _ _
    by_cases c2 : cset (fun k => inb a b k && decide (nu k ≠ 0)) = 0
    · have c3 : nI (fb_ct (fun k => inb a b k && decide (nu k ≠ 0)) 42) = (0 : Int32) := by
        rw [(cset_ct0 _).mp c2]
        rfl
      rw [if_neg (not_not_intro c2), if_neg (not_not_intro c3)]
      exact ⟨2, rfl, rfl, fun e => absurd e (by decide)⟩
    · have c3 : ¬ nI (fb_ct (fun k => inb a b k && decide (nu k ≠ 0)) 42) = (0 : Int32) := fun e => c2 ((cset_ct0 _).mpr (nI_inj (by omega) (by decide) e))
      rw [if_pos c2, if_pos c3, Option.bind_some]
      by_cases c4 : nI (fb_ct (fun k => inb a b k && decide (nu k ≠ 0)) 42) ≤ (1 : Int32)
      · have h1 : fb_ct (fun k => inb a b k && decide (nu k ≠ 0)) 42 = 1 := by
          have q1 := (nI_leI (b := 1) (by omega) (by decide)).mp c4
          have q2 : fb_ct (fun k => inb a b k && decide (nu k ≠ 0)) 42 ≠ 0 := fun e => c2 ((cset_ct0 _).mpr e)
          omega
        obtain ⟨f1, f2, f3⟩ := ct_one h1
        rw [if_pos c4, if_pos c4, sumIn_s hF, lowest_cset hF, Option.bind_some, Option.bind_some]
        have e5 : fa_first (tb (cset (fun k => inb a b k && decide (nu k ≠ 0)))) 42 = fa_first (fun k => inb a b k && decide (nu k ≠ 0)) 42 := first_cong (fun k hk => tb_cset' _ hk)
        rw [e5]
        generalize hc : fa_first (fun k => inb a b k && decide (nu k ≠ 0)) 42 = c at f1 f2 f3
        have e6 : isum (fun k => if tb (cs (a, b)) k = true then nu k else 0) 42 = nu c := by
          rw [isum_cong (g := fun k => if k = c then nu c else 0), isum_one, if_pos f1]
          intro k hk
          unfold cs
          rw [tb_cset' _ hk]
          by_cases q : k = c
          · rw [if_pos q, q]
            simp only [Bool.and_eq_true] at f2
            rw [if_pos f2.1]
          · rw [if_neg q]
            by_cases q2 : inb a b k = true
            · rw [if_pos q2]
              apply Classical.byContradiction
              intro q3
              exact q (f3 k hk (by rw [q2, Bool.true_and]; exact decide_eq_true q3))
            · rw [if_neg q2]
        have es : s c = nu c := by
          have := (h _ f1).2.1
          rwa [Nat.zero_add] at this
        rw [e6, sizeOf_s hr, o_rd_s (show c < 84 by omega) (by decide), Option.bind_some, Option.bind_some, show fM_bits F (cs (a, b)) = _ from bits_cset hF _, Option.bind_some, es]
        by_cases c5 : nu c = nI (fb_ct (inb a b) 42)
        · rw [if_neg (not_not_intro c5), if_pos c5]
          exact ⟨0, rfl, rfl, fun _ => hfree⟩
        · rw [if_pos c5, if_neg c5]
          exact ⟨4, rfl, rfl, fun e => absurd e (by decide)⟩
      · rw [if_neg c4, if_neg c4]
        exact ⟨3, rfl, rfl, fun e => absurd e (by decide)⟩
  · rw [if_neg c1, if_neg c1]
    exact ⟨1, rfl, rfl, fun e => absurd e (by decide)⟩
theorem case24 (hF : 42 < F) (h : BR nu inF fi la s 0) (hi : i + 4 < L) (hL : L < 2 ^ 31) : ∃ out, fL_case24 F L (nI i) xs inF nu arr s th = some out := by
  unfold fL_case24
  rw [show (1 : Int32) = nI 1 from rfl, show (2 : Int32) = nI 2 from rfl, show (3 : Int32) = nI 3 from rfl, show (4 : Int32) = nI 4 from rfl, rdk (by omega) hL, rdk (by omega) hL, rdk (by omega) hL, rdk (by omega) hL]
  simp only [Option.bind_some]
  unfold fPaddockFieldsLaw_reasonAgainst fX_reasonAgainst fM_reasonAgainst
  rcases rect_cases (xs (i + 1)) (xs (i + 2)) (xs (i + 3)) (xs (i + 4)) with ⟨e1, e2⟩ | ⟨T, C, B, R, h1, h2, h3, h4, x1, x2, x3, x4, e1, e2⟩
  · rw [e1, e2]
    exact ⟨_, rfl⟩
  · have hr : RC (7 * T + C) (7 * B + R) := by unfold RC; omega
    obtain ⟨v, z1, z2, -⟩ := reason_s hF h hr
    rw [e1, e2, x1, x2, x3, x4]
    simp only [Option.bind_some, if_true]
    rw [cellAt_s, cellAt_s, rectangle_e hF h1 h2 h3 h4, if_neg (show ¬ (1 : Int32) = 0 by decide)]
    simp only [Option.bind_some]
    rw [z1, z2]
    simp only [Option.bind_some, if_true, wr1, fM_thrown]
    rw [if_neg (by decide)]
    simp only [rd1, Option.bind_some, if_true]
    exact ⟨_, rfl⟩
theorem case2 (hF : 504 < F) {a : Nat → Nat} (ha : ∀ j k, j < 6 → k < 6 → a j = a k → j = k) {count known : Int32} {saved : Nat → Option Nat} {n q f l : Nat → Nat → Int32} {before : Nat → Int32} (hH : HI a count saved n q f l known before) (h : BR nu inF fi la s 0) (hi : i + 4 < L) (hL : L < 2 ^ 31) :
    ∃ count' saved' n' q' f' l' inF' fi' la' arr' s' th' known' before', fL_case2 F L (nI i) (a 0) (a 1) (a 2) (a 3) (a 4) (a 5) xs inF count saved nu (n 0) (q 0) fi (f 0) la (l 0) (n 1) (q 1) (f 1) (l 1) (n 2) (q 2) (f 2) (l 2) (n 3) (q 3) (f 3) (l 3) (n 4) (q 4) (f 4) (l 4) (n 5) (q 5) (f 5) (l 5) arr s th known before = some (inF', count', saved', (n' 0), (q' 0), fi', (f' 0), la', (l' 0), (n' 1), (q' 1), (f' 1), (l' 1), (n' 2), (q' 2), (f' 2), (l' 2), (n' 3), (q' 3), (f' 3), (l' 3), (n' 4), (q' 4), (f' 4), (l' 4), (n' 5), (q' 5), (f' 5), (l' 5), arr', th', s', known', before') ∧ HI a count' saved' n' q' f' l' known' before' ∧ BR nu inF' fi' la' s' 0 := by
  unfold fL_case2
  rw [show (1 : Int32) = nI 1 from rfl, show (2 : Int32) = nI 2 from rfl, show (3 : Int32) = nI 3 from rfl, show (4 : Int32) = nI 4 from rfl, rdk (by omega) hL, rdk (by omega) hL, rdk (by omega) hL, rdk (by omega) hL]
  simp only [Option.bind_some]
  unfold fPaddockFieldsLaw_draw fX_draw fM_draw
  rcases rect_cases (xs (i + 1)) (xs (i + 2)) (xs (i + 3)) (xs (i + 4)) with ⟨e1, e2⟩ | ⟨T, C, B, R, h1, h2, h3, h4, x1, x2, x3, x4, e1, e2⟩
  · rw [e1, e2]
    exact ⟨count, saved, n, q, f, l, inF, fi, la, _, s, _, known, before, rfl, hH, h⟩
  · have hr : RC (7 * T + C) (7 * B + R) := by unfold RC; omega
    obtain ⟨v, z1, z2, z3⟩ := reason_s (F := F) (by omega) h hr
    rw [e1, e2, x1, x2, x3, x4]
    simp only [Option.bind_some, if_true]
    rw [cellAt_s, cellAt_s, rectangle_e (F := F) (by omega) h1 h2 h3 h4, if_pos (show ¬ (1 : Int32) = 0 by decide)]
    simp only [Option.bind_some]
    rw [z1, z2]
    simp only [Option.bind_some]
    by_cases c : v = 0
    · obtain ⟨saved', count', n', q', f', l', before', known', y1, y2, y3⟩ := save_s hF ha hH h
      obtain ⟨i', f1, l1, w1, w2⟩ := place_s (F := F) (by omega) hr.1 hr.2.1 inF fi la
      obtain ⟨t, u1, u2, u3⟩ := draws_s (F := F) (by omega) hr (tb_cset _) s
      have hB : BR nu i' f1 l1 t 0 := h.place hr (z3 c) w2 u2 (fun k hk => u3 k (Or.inl hk))
      rw [if_pos c, if_pos c, y1, y2, w1]
      simp only [Option.bind_some]
      rw [show fM_draws F (cs (7 * T + C, 7 * B + R)) s = _ from u1]
      simp only [Option.bind_some]
      rw [taken_X (F := F) (by omega) hB, taken_e (F := F) (by omega) hB]
      simp only [Option.bind_some]
      rw [show fM_bits F (Tk i') = some (fJ_bitCount (Tk i')) from bits_bc (by omega) (inB_cset _)]
      simp only [Option.bind_some, if_true, wr1, fM_thrown]
      rw [if_neg (by decide)]
      simp only [rd1, Option.bind_some, if_true]
      exact ⟨count', saved', n', q', f', l', i', f1, l1, _, t, _, known', before', rfl, y3, hB⟩
    · rw [if_neg c, if_neg c]
      exact ⟨count, saved, n, q, f, l, inF, fi, la, _, s, _, known, before, rfl, hH, h⟩
end CD
