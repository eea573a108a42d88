/-! THE MATHEMATICS: undo, snapshots. Own text. -/
section CU
variable {F L i : Nat} {xs nu inF fi la s : Nat → Int32} {arr : Nat → Int64} {th : Int32}
theorem case13 (hF : 504 < F) {a : Nat → Nat} (ha : ∀ j k, j < 6 → k < 6 → a j = a k → j = k) {count known : Int32} {saved : Nat → Option Nat} {n q f l : Nat → Nat → Int32} {before : Nat → Int32} (hH : HI a count saved n q f l known before) (h : BR nu inF fi la s 0) :
    ∃ count' nu' inF' fi' la' s' th' known', fL_case13 F L (nI i) (a 0) (a 1) (a 2) (a 3) (a 4) (a 5) xs inF count saved nu (n 0) (q 0) fi (f 0) la (l 0) (n 1) (q 1) (f 1) (l 1) (n 2) (q 2) (f 2) (l 2) (n 3) (q 3) (f 3) (l 3) (n 4) (q 4) (f 4) (l 4) (n 5) (q 5) (f 5) (l 5) s th known before = some (count', nu', inF', fi', la', known', th', s') ∧ HI a count' saved n q f l known' before ∧ BR nu' inF' fi' la' s' 0 := by
  have hrd : ∀ z, (o_rd L xs z).bind (fun v => some v) = o_rd L xs z := fun z => by cases o_rd L xs z <;> rfl
  unfold fL_case13 fPaddockFieldsLaw_undo fX_undo fM_undo fHistory_countSaved fM_thrown
  by_cases c0 : count = 0
  · have k0 : known = 0 := by
      obtain ⟨c, hc, e1, e2, -⟩ := hH
      rw [e2, ← e1, c0]
    rw [Option.bind_some, if_neg (not_not_intro c0), if_neg (not_not_intro k0)]
    exact ⟨count, nu, inF, fi, la, s, _, known, rfl, hH, h⟩
  · obtain ⟨count', nb', ib', fb', lb', s', z1, z2, z3, z4, z5⟩ := load_s hF ha hH c0 nu inF fi la s
    rw [Option.bind_some, if_pos c0, if_pos z2, z1]
    simp only [Option.bind_some]
    rw [if_neg (show ¬ ¬ True from not_not_intro trivial), z3]
    exact ⟨count', nb', ib', fb', lb', s', _, _, rfl, z4, z5⟩
/-- the two snapshots against the reference's slots -/
def SN (b : Nat → Nat) (snap : Nat → Option Nat) (vn vi vf vl : Nat → Nat → Int32) (filled slots kept : Nat → Int32) : Prop :=
  snap 0 = some (b 0) ∧ snap 1 = some (b 1) ∧ b 0 ≠ b 1 ∧ ∀ j, j < 2 → (filled j = 0 ∨ filled j = 1) ∧ kept j = filled j ∧ (filled j = 1 → BR (vn j) (vi j) (vf j) (vl j) slots (84 * j))
theorem slot_cases (x : Int32) : (∃ j, j < 2 ∧ x = nI j ∧ fX_checkSlot x = some 0 ∧ fM_in x (0 : Int32) (1 : Int32) = some 1 ∧ ¬ x < (0 : Int32) ∧ ¬ (2 : Int32) ≤ x) ∨ (fX_checkSlot x = some 2 ∧ fM_in x (0 : Int32) (1 : Int32) = some 0) := by
  have t0 : (0 : Int32).toInt = 0 := by decide
  have t1 : (1 : Int32).toInt = 1 := by decide
  have t2 : (2 : Int32).toInt = 2 := by decide
  unfold fX_checkSlot
  rcases in_cases (lo := 0) (hi := 1) (by decide) x with ⟨v, -, hv, ev, g1, g2, g3⟩ | ⟨g, g3⟩ | g
  · refine Or.inl ⟨v, by omega, ev, ?_, g3, g1, ?_⟩
    · have g4 : x < (2 : Int32) := by
        rw [Int32.lt_iff_toInt_lt, ev, nI_toInt (by omega), t2]
        omega
      rw [if_neg (show ¬ x < (0 : Int32) from g1), if_pos g4]
    · rw [Int32.le_iff_toInt_le, ev, nI_toInt (by omega), t2]
      omega
  · refine Or.inr ⟨?_, g3⟩
    rcases g with g | ⟨g1, g2⟩
    · rw [if_pos (show x < (0 : Int32) from g)]
    · have g4 : ¬ x < (2 : Int32) := by
        rw [Int32.lt_iff_toInt_lt, t2]
        rw [show nI 1 = (1 : Int32) from rfl, Int32.le_iff_toInt_le, t1] at g2
        omega
      rw [if_neg (show ¬ x < (0 : Int32) from g1), if_neg g4]
  · exact absurd g (by decide)
theorem mkeep_L_s (hF : 504 < F) {c : Nat} (hc : c < 2) (s s0 : Nat → Int32) : ∃ t, fM_keep_L20 F (nI c) (0 : Int32) s F (nI 0) s0 = some (nI 84, t) ∧ (∀ k, k < 84 → t (84 * c + k) = s k) ∧ ∀ k, (k < 84 * c ∨ 84 * c + 84 ≤ k) → t k = s0 k := by
  obtain ⟨b, hb, e⟩ := lp0 84 (by omega : 84 < F) (fun N i (b : Nat → Int32) => fM_keep_L20 F (nI c) (0 : Int32) s N (nI i) b) (fun b => (nI 84, b)) (fun i b => (∀ k, k < i → b (84 * c + k) = s k) ∧ ∀ k, (k < 84 * c ∨ 84 * c + 84 ≤ k) → b k = s0 k) (a := s0)
    ⟨fun k hk => by omega, fun _ _ => rfl⟩
    (fun i b hi hb => by
      have e1 : ¬ (84 : Int32) ≤ nI i := nI_ge (b := 84) hi (by decide)
      have e0 : ((84 : Int32) * nI c) + nI i = nI (84 * c + i) := by rw [show (84 : Int32) = nI 84 from rfl, nI_mul, nI_add]
      refine ⟨upd b (84 * c + i) (s i), ⟨fun k hk => ?_, fun k hk => ?_⟩, fun N => ?_⟩
      · by_cases q : k = i
        · subst q; rw [upd_at]
        · rw [upd_off _ _ (by omega)]; exact hb.1 k (by omega)
      · rw [upd_off _ _ (by omega)]; exact hb.2 k hk
      · simp only [fM_keep_L20, e1, if_false, e0, not_true_eq_false, o_rd_s hi (show 84 < 2 ^ 31 by decide), o_wrI_s (show 84 * c + i < 168 by omega) (show 168 < 2 ^ 31 by decide), Option.bind_some, nI_1])
    (fun N b hb => by simp only [fM_keep_L20, show (84 : Int32) ≤ nI 84 from Int32.le_refl _, if_true])
  exact ⟨b, e, hb⟩
theorem mback_L_s (hF : 504 < F) {c : Nat} (hc : c < 2) (bf s0 : Nat → Int32) : ∃ t, fM_goBack_L44 F (nI c) bf F (nI 0) s0 = some (nI 84, t) ∧ ∀ k, k < 84 → t k = bf (84 * c + k) := by
  obtain ⟨b, hb, e⟩ := lp0 84 (by omega : 84 < F) (fun N i (b : Nat → Int32) => fM_goBack_L44 F (nI c) bf N (nI i) b) (fun b => (nI 84, b)) (fun i b => ∀ k, k < i → b k = bf (84 * c + k)) (a := s0)
    (fun k hk => by omega)
    (fun i b hi hb => by
      have e1 : ¬ (84 : Int32) ≤ nI i := nI_ge (b := 84) hi (by decide)
      have e0 : ((84 : Int32) * nI c) + nI i = nI (84 * c + i) := by rw [show (84 : Int32) = nI 84 from rfl, nI_mul, nI_add]
      refine ⟨upd b i (bf (84 * c + i)), fun k hk => ?_, fun N => ?_⟩
      · by_cases q : k = i
        · subst q; rw [upd_at]
        · rw [upd_off _ _ q]; exact hb k (by omega)
      · simp only [fM_goBack_L44, e1, if_false, e0, o_rd_s (show 84 * c + i < 168 by omega) (show 168 < 2 ^ 31 by decide), o_wrI_s hi (show 84 < 2 ^ 31 by decide), Option.bind_some, nI_1])
    (fun N b hb => by simp only [fM_goBack_L44, show (84 : Int32) ≤ nI 84 from Int32.le_refl _, if_true])
  exact ⟨b, e, hb⟩
theorem case11 (hF : 504 < F) (h : BR nu inF fi la s 0) {b : Nat → Nat} {snap : Nat → Option Nat} {vn vi vf vl : Nat → Nat → Int32} {filled slots kept : Nat → Int32} (hS : SN b snap vn vi vf vl filled slots kept) (hi : i + 4 < L) (hL : L < 2 ^ 31) :
    ∃ vn' vi' vf' vl' filled' slots' kept' th', fL_case11 F L (nI i) (b 0) (b 1) xs inF nu fi la s th snap (vn 0) (vi 0) (vf 0) (vl 0) filled (vn 1) (vi 1) (vf 1) (vl 1) slots kept = some ((vn' 0), (vi' 0), (vf' 0), (vl' 0), filled', (vn' 1), (vi' 1), (vf' 1), (vl' 1), th', slots', kept') ∧ SN b snap vn' vi' vf' vl' filled' slots' kept' := by
  unfold fL_case11
  rw [show (1 : Int32) = nI 1 from rfl, rdk (by omega) hL]
  simp only [Option.bind_some]
  unfold fPaddockFieldsLaw_keep fX_keep fM_keep fM_thrown
  rcases slot_cases (xs (i + 1)) with ⟨j, hj, ej, g1, g2, g3, g4⟩ | ⟨g1, g2⟩
  · obtain ⟨s0, s1, hne, hS⟩ := hS
    obtain ⟨t, w1, w2, w3⟩ := mkeep_L_s hF hj s slots
    unfold fHistory_store
    rw [g1, g2]
    simp only [Option.bind_some, if_true]
    rw [if_neg g3, if_neg g4, if_neg (show ¬ (1 : Int32) = 0 by decide)]
    simp only [Option.bind_some]
    rw [ej, show fM_keep_L20 F (nI j) (0 : Int32) s F (0 : Int32) slots = _ from w1, Option.bind_some, if_neg (show ¬ ¬ True from not_not_intro trivial), o_wrZ_s1 (f := filled) hj (by decide), o_wrZ_s1 (f := kept) hj (by decide)]
    simp only [Option.bind_some]
    obtain ⟨n', i', f', l', y1, y2⟩ := copy_s (F := F) (by omega) nu inF fi la h.bit (vn j) (vi j) (vf j) (vl j)
    have hB : BR n' i' f' l' t (84 * j) := h.cong (fun k hk => (y2 k hk).1) (fun k hk => (y2 k hk).2.1) (fun k hk => (y2 k hk).2.2.1) (fun k hk => (y2 k hk).2.2.2) (fun k hk => by
      rw [Nat.zero_add]
      exact w2 k hk)
    have hO : ∀ m, m < 2 → m ≠ j → filled m = 1 → BR (vn m) (vi m) (vf m) (vl m) t (84 * m) := fun m hm hmj hf => ((hS m hm).2.2 hf).cong (fun _ _ => rfl) (fun _ _ => rfl) (fun _ _ => rfl) (fun _ _ => rfl) (fun k hk => w3 _ (by omega))
    rcases (show j = 0 ∨ j = 1 by omega) with rfl | rfl
    · rw [o_rdq_s (by decide) (by decide) s0, Option.bind_some, Option.bind_some, if_pos rfl, y1]
      refine ⟨fun m => if m = 0 then n' else vn m, fun m => if m = 0 then i' else vi m, fun m => if m = 0 then f' else vf m, fun m => if m = 0 then l' else vl m, upd filled 0 1, t, upd kept 0 1, _, rfl, s0, s1, hne, fun m hm => ?_⟩
      by_cases q : m = 0
      · subst q
        exact ⟨Or.inr rfl, rfl, fun _ => hB⟩
      · have e1 : upd filled 0 1 m = filled m := upd_off _ _ q
        have e2 : upd kept 0 1 m = kept m := upd_off _ _ q
        rw [e1, e2]
        simp only [if_neg q]
        exact ⟨(hS m hm).1, (hS m hm).2.1, hO m hm q⟩
    · rw [o_rdq_s (by decide) (by decide) s1, Option.bind_some, Option.bind_some, if_neg (fun e => hne e.symm), if_pos rfl, y1]
      refine ⟨fun m => if m = 1 then n' else vn m, fun m => if m = 1 then i' else vi m, fun m => if m = 1 then f' else vf m, fun m => if m = 1 then l' else vl m, upd filled 1 1, t, upd kept 1 1, _, rfl, s0, s1, hne, fun m hm => ?_⟩
      by_cases q : m = 1
      · subst q
        exact ⟨Or.inr rfl, rfl, fun _ => hB⟩
      · have e1 : upd filled 1 1 m = filled m := upd_off _ _ q
        have e2 : upd kept 1 1 m = kept m := upd_off _ _ q
        rw [e1, e2]
        simp only [if_neg q]
        exact ⟨(hS m hm).1, (hS m hm).2.1, hO m hm q⟩
  · obtain ⟨M, rfl⟩ : ∃ M, F = M + 1 := ⟨F - 1, by omega⟩
    rw [g1, g2]
    simp only [Option.bind_some, if_true]
    rw [if_neg (by decide), fM_keep_L20, if_neg (show ¬ (84 : Int32) ≤ 0 by decide), if_pos (show ¬ (1 : Int32) = 0 by decide)]
    exact ⟨vn, vi, vf, vl, filled, slots, kept, _, rfl, hS⟩
theorem case12 (hF : 504 < F) {a : Nat → Nat} (ha : ∀ j k, j < 6 → k < 6 → a j = a k → j = k) {count known : Int32} {saved : Nat → Option Nat} {n q f l : Nat → Nat → Int32} {before : Nat → Int32} (hH : HI a count saved n q f l known before) (h : BR nu inF fi la s 0) {b : Nat → Nat} {snap : Nat → Option Nat} {vn vi vf vl : Nat → Nat → Int32} {filled slots kept : Nat → Int32} (hS : SN b snap vn vi vf vl filled slots kept) (hi : i + 4 < L) (hL : L < 2 ^ 31) :
    ∃ count' saved' n' q' f' l' nu' inF' fi' la' s' th' known' before', fL_case12 F L (nI i) (a 0) (a 1) (a 2) (a 3) (a 4) (a 5) (b 0) (b 1) xs inF count saved nu (n 0) (q 0) fi (f 0) la (l 0) (n 1) (q 1) (f 1) (l 1) (n 2) (q 2) (f 2) (l 2) (n 3) (q 3) (f 3) (l 3) (n 4) (q 4) (f 4) (l 4) (n 5) (q 5) (f 5) (l 5) s th known before snap (vn 0) (vi 0) (vf 0) (vl 0) filled (vn 1) (vi 1) (vf 1) (vl 1) slots kept = some (count', saved', nu', (n' 0), inF', (q' 0), fi', (f' 0), la', (l' 0), (n' 1), (q' 1), (f' 1), (l' 1), (n' 2), (q' 2), (f' 2), (l' 2), (n' 3), (q' 3), (f' 3), (l' 3), (n' 4), (q' 4), (f' 4), (l' 4), (n' 5), (q' 5), (f' 5), (l' 5), th', known', before', s') ∧ HI a count' saved' n' q' f' l' known' before' ∧ BR nu' inF' fi' la' s' 0 := by
  unfold fL_case12
  rw [show (1 : Int32) = nI 1 from rfl, rdk (by omega) hL]
  simp only [Option.bind_some]
  unfold fPaddockFieldsLaw_goBack fX_goBack fM_goBack fM_thrown
  rcases slot_cases (xs (i + 1)) with ⟨j, hj, ej, g1, g2, g3, g4⟩ | ⟨g1, g2⟩
  · obtain ⟨s0, s1, hne, hS⟩ := hS
    have hhas : fHistory_hasSnapshot (xs (i + 1)) filled = some (filled j) := by
      unfold fHistory_hasSnapshot
      rw [if_neg g3, if_neg g4, ej, o_rd_s hj (by decide), Option.bind_some]
      rcases (hS j hj).1 with e | e
      · rw [e]; rfl
      · rw [e]; rfl
    unfold fHistory_loadSnapshot
    rw [g1, g2, hhas]
    simp only [Option.bind_some, if_true]
    rw [if_pos (show ¬ (1 : Int32) = 0 by decide), ej, o_rd_s hj (by decide), Option.bind_some, (hS j hj).2.1]
    rcases (hS j hj).1 with e | e
    · rw [e, if_neg (not_not_intro rfl), if_pos rfl]
      exact ⟨count, saved, n, q, f, l, nu, inF, fi, la, s, _, known, before, rfl, hH, h⟩
    · have hB := (hS j hj).2.2 e
      obtain ⟨saved', count', n', q', f', l', before', known', z1, z2, z3⟩ := save_s hF ha hH h
      obtain ⟨t, w1, w2⟩ := mback_L_s hF hj slots s
      obtain ⟨m', j', g', k', y1, y2⟩ := copy_s (F := F) (by omega) (vn j) (vi j) (vf j) (vl j) hB.bit nu inF fi la
      have hN : BR m' j' g' k' t 0 := hB.cong (fun k hk => (y2 k hk).1) (fun k hk => (y2 k hk).2.1) (fun k hk => (y2 k hk).2.2.1) (fun k hk => (y2 k hk).2.2.2) (fun k hk => by
        rw [Nat.zero_add]
        exact w2 k hk)
      rw [e, if_pos (show ¬ (1 : Int32) = 0 by decide), if_neg (show ¬ (1 : Int32) = 0 by decide)]
      rw [if_neg (show ¬ (1 : Int32) = 0 by decide), Option.bind_some, if_neg (show ¬ ¬ (0 : Int32) = 0 by decide), z1, z2]
      simp only [Option.bind_some]
      rw [show fM_goBack_L44 F (nI j) slots F (0 : Int32) s = _ from w1]
      rcases (show j = 0 ∨ j = 1 by omega) with rfl | rfl
      · rw [o_rdq_s (by decide) (by decide) s0, Option.bind_some, if_pos rfl, y1]
        exact ⟨count', saved', n', q', f', l', m', j', g', k', t, _, known', before', rfl, z3, hN⟩
      · rw [o_rdq_s (by decide) (by decide) s1, Option.bind_some, if_neg (fun e => hne e.symm), if_pos rfl, y1]
        exact ⟨count', saved', n', q', f', l', m', j', g', k', t, _, known', before', rfl, z3, hN⟩
  · rw [g1, g2]
    exact ⟨count, saved, n, q, f, l, nu, inF, fi, la, s, _, known, before, rfl, hH, h⟩
end CU
