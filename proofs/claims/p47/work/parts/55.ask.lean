/-! THE MATHEMATICS: what is asked of the two lists. Own text. -/
theorem lsr {σ ρ : Type} (n : Nat) (L : Nat → Nat → σ → Option ρ) (I : Nat → σ → Prop) (Q : ρ → Prop) (hs : ∀ i a, i < n → I i a → (∃ r, Q r ∧ ∀ N, L (N + 1) i a = some r) ∨ (∃ a', I (i + 1) a' ∧ ∀ N, L (N + 1) i a = L N (i + 1) a')) (he : ∀ N a, I n a → ∃ r, Q r ∧ L (N + 1) n a = some r) : ∀ (k i N : Nat) (a : σ), i + k = n → k < N → I i a → ∃ r, Q r ∧ L N i a = some r
  | 0, i, N, a, hi, hN, h => by
    obtain ⟨M, rfl⟩ : ∃ M, N = M + 1 := ⟨N - 1, by omega⟩
    rw [Nat.add_zero] at hi
    subst hi
    exact he M a h
  | k + 1, i, N, a, hi, hN, h => by
    obtain ⟨M, rfl⟩ : ∃ M, N = M + 1 := ⟨N - 1, by omega⟩
    rcases hs i a (by omega) h with ⟨r, hr, e⟩ | ⟨a1, h1, e1⟩
    · exact ⟨r, hr, e M⟩
    · obtain ⟨r, hr, e⟩ := lsr n L I Q hs he k (i + 1) M a1 (by omega) (by omega) h1
      exact ⟨r, hr, (e1 M).trans e⟩
theorem ownerAt_s {i n : Nat} (h : i < n) (hn : n ≤ 588) (o : Nat → Int32) : fRectangles_ownerAt (nI i) (nI n) o = some (o i) := by
  unfold fRectangles_ownerAt
  rw [if_neg (nI_pos (by omega)), if_neg (nI_ge h (by omega)), if_neg (ge588 (by omega)), o_rd_s (by omega) (by decide)]
  rfl
theorem ownerAt_o {i n : Nat} (h : n ≤ i) (hi : i < 2 ^ 31) (o : Nat → Int32) : fRectangles_ownerAt (nI i) (nI n) o = some 42 := by
  unfold fRectangles_ownerAt
  rw [if_neg (nI_pos hi), if_pos (nI_le h hi)]
theorem firstAt_s {i n : Nat} (h : i < n) (hn : n ≤ 588) (o : Nat → Int32) : fRectangles_firstAt (nI i) (nI n) o = some (o i) := by
  unfold fRectangles_firstAt
  rw [if_neg (nI_pos (by omega)), if_neg (nI_ge h (by omega)), if_neg (ge588 (by omega)), o_rd_s (by omega) (by decide)]
  rfl
theorem lastAt_s {i n : Nat} (h : i < n) (hn : n ≤ 588) (o : Nat → Int32) : fRectangles_lastAt (nI i) (nI n) o = some (o i) := by
  unfold fRectangles_lastAt
  rw [if_neg (nI_pos (by omega)), if_neg (nI_ge h (by omega)), if_neg (ge588 (by omega)), o_rd_s (by omega) (by decide)]
  rfl
theorem cellsAt_s {i n : Nat} (h : i < n) (hn : n ≤ 588) (o : Nat → Int64) : fRectangles_cellsAt (nI i) (nI n) o = some (o i) := by
  unfold fRectangles_cellsAt
  rw [if_neg (nI_pos (by omega)), if_neg (nI_ge h (by omega)), if_neg (ge588 (by omega)), o_rd_s (by omega) (by decide)]
  rfl
theorem bothEnds_s {i n : Nat} (h : i < n) (hn : n ≤ 588) (f l : Nat → Int32) : fRectangles_bothEnds (nI i) (nI n) f l = some (f i * 42 + l i) := by
  unfold fRectangles_bothEnds
  rw [firstAt_s h hn, lastAt_s h hn]
  rfl
theorem nI_eqp {a b : Nat} (ha : a < 2 ^ 31) (hb : b < 2 ^ 31) : (nI a = nI b) = (a = b) := propext (nI_eq ha hb)
theorem own_lt {nu inF : Nat → Int32} {r : Nat × Nat} (h : r ∈ XL nu inF) : own nu r < 42 := (OKown (mem_XL.mp h).2).1
theorem own_ltM {nu inF : Nat → Int32} {r : Nat × Nat} (h : r ∈ ML nu inF) : own nu r < 42 := (OKown (mem_ML.mp h).2).1
theorem XL_get {nu inF : Nat → Int32} {i : Nat} {r : Nat × Nat} (h : (XL nu inF)[i]? = some r) : i < (XL nu inF).length ∧ r ∈ XL nu inF ∧ own nu r < 42 ∧ RC r.1 r.2 ∧ OK nu inF r = true := by
  have hm := List.mem_of_getElem? h
  exact ⟨ts_lt h, hm, own_lt hm, (mem_XL.mp hm).1, (mem_XL.mp hm).2⟩
theorem ML_len (nu inF : Nat → Int32) : (ML nu inF).length ≤ 588 := MP_len _ _ _
theorem ML_get {nu inF : Nat → Int32} {i : Nat} {r : Nat × Nat} (h : (ML nu inF)[i]? = some r) : i < (ML nu inF).length ∧ i < 588 ∧ r ∈ ML nu inF ∧ own nu r < 42 ∧ RC r.1 r.2 ∧ OK nu inF r = true := by
  have hm := List.mem_of_getElem? h
  have := ML_len nu inF
  have h2 := ts_lt h
  exact ⟨h2, by omega, hm, own_ltM hm, (mem_ML.mp hm).1, (mem_ML.mp hm).2⟩
theorem countP_snoc {α : Type} (p : α → Bool) (l : List α) (x : α) : (l ++ [x]).countP p = l.countP p + if p x = true then 1 else 0 := by
  rw [List.countP_append]
  by_cases h : p x = true
  · rw [if_pos h, List.countP_cons_of_pos h]; rfl
  · rw [if_neg h, List.countP_cons_of_neg h]; rfl
section A
variable {F : Nat} {nu inF : Nat → Int32} {a : Int32 × (Nat → Int32) × (Nat → Int32) × (Nat → Int64) × (Nat → Int32)} {m : Int32 × (Nat → Int64) × (Nat → Int32) × (Nat → Int32) × (Nat → Int32)}
theorem X_countOf (hF : 588 < F) (ha : XI nu (XL nu inF) a) {c : Nat} (hc : c < 42) : fRectangles_countOf F (nI c) a.1 a.2.2.2.2 = some (nI ((XL nu inF).countP (fun r => decide (own nu r = c)))) := by
  obtain ⟨h1, h2, h3, h4, h5⟩ := ha
  have hl := XL_len nu inF
  obtain ⟨x, hx, e⟩ := lpl (F := F) (XL nu inF) (by omega) (fun N i (x : Int32) => fRectangles_countOf_L4 F (nI c) (nI (XL nu inF).length) a.2.2.2.2 N x (nI i)) (fun x => (x, nI (XL nu inF).length)) (fun l x => x = nI (l.countP (fun r => decide (own nu r = c)))) (a := 0) rfl
    (fun i r x hr hi hx => by
      subst hx
      obtain ⟨-, -, ho, -, -⟩ := XL_get hr
      refine ⟨_, rfl, fun N => ?_⟩
      rw [countP_snoc]
      have e1 : ¬ nI (XL nu inF).length ≤ nI i := nI_ge hi (by omega)
      by_cases q : own nu r = c
      · simp only [fRectangles_countOf_L4, e1, if_false, ownerAt_s hi hl, h5 i r hr, Option.bind_some, q, not_true_eq_false, decide_true, if_true, nI_1]
      · have q2 : ¬ nI (own nu r) = nI c := fun e => q (nI_inj (by omega) (by omega) e)
        simp only [fRectangles_countOf_L4, e1, if_false, ownerAt_s hi hl, h5 i r hr, Option.bind_some, q2, q, not_false_eq_true, decide_false, if_true, Int32.add_zero, Nat.add_zero, nI_1, Bool.false_eq_true])
    (fun N x hx => by simp only [fRectangles_countOf_L4, Int32.le_refl, if_true])
  subst hx
  unfold fRectangles_countOf
  try rw [nI_0] at e
  rw [h1, e]
  rfl
theorem M_countOf (hF : 588 < F) (hm : MI nu (ML nu inF) m) {c : Nat} (hc : c < 42) : fM_countOf F (nI c) m.1 m.2.2.1 = some (nI ((XL nu inF).countP (fun r => decide (own nu r = c)))) := by
  obtain ⟨h1, h2, h3, h4, h5⟩ := hm
  have hl := ML_len nu inF
  rw [← (ML_perm nu inF).countP_eq]
  obtain ⟨x, hx, e⟩ := lpl (F := F) (ML nu inF) (by omega) (fun N i (x : Int32) => fM_countOf_L4 F (nI c) (nI (ML nu inF).length) m.2.2.1 N x (nI i)) (fun x => (x, nI (ML nu inF).length)) (fun l x => x = nI (l.countP (fun r => decide (own nu r = c)))) (a := 0) rfl
    (fun i r x hr hi hx => by
      subst hx
      obtain ⟨-, hi2, -, ho, -, -⟩ := ML_get hr
      refine ⟨_, rfl, fun N => ?_⟩
      rw [countP_snoc]
      have e1 : ¬ nI (ML nu inF).length ≤ nI i := nI_ge hi (by omega)
      have e2 : o_rd 1200 m.2.2.1 (nI i) = some (nI (own nu r)) := by rw [o_rd_s (by omega) (by decide), h3 i r hr]
      by_cases q : own nu r = c
      · simp only [fM_countOf_L4, e1, if_false, e2, Option.bind_some, q, not_true_eq_false, decide_true, if_true, nI_1]
      · have q2 : ¬ nI (own nu r) = nI c := fun e => q (nI_inj (by omega) (by omega) e)
        simp only [fM_countOf_L4, e1, if_false, e2, Option.bind_some, q2, q, not_false_eq_true, decide_false, if_true, Int32.add_zero, Nat.add_zero, nI_1, Bool.false_eq_true])
    (fun N x hx => by simp only [fM_countOf_L4, Int32.le_refl, if_true])
  subst hx
  unfold fM_countOf
  try rw [nI_0] at e
  rw [h1, e]
  rfl
theorem X_countOver (hF : 588 < F) (ha : XI nu (XL nu inF) a) {c : Nat} (hc : c < 42) : fRectangles_countOver F (nI c) a.1 a.2.2.2.1 = some (nI ((XL nu inF).countP (fun r => inb r.1 r.2 c))) := by
  obtain ⟨h1, h2, h3, h4, h5⟩ := ha
  have hl := XL_len nu inF
  obtain ⟨x, hx, e⟩ := lpl (F := F) (XL nu inF) (by omega) (fun N i (x : Int32) => fRectangles_countOver_L4 F (nI c) (nI (XL nu inF).length) a.2.2.2.1 N x (nI i)) (fun x => (x, nI (XL nu inF).length)) (fun l x => x = nI (l.countP (fun r => inb r.1 r.2 c))) (a := 0) rfl
    (fun i r x hr hi hx => by
      subst hx
      refine ⟨_, rfl, fun N => ?_⟩
      rw [countP_snoc]
      have e1 : ¬ nI (XL nu inF).length ≤ nI i := nI_ge hi (by omega)
      by_cases q : inb r.1 r.2 c = true
      · simp only [fRectangles_countOver_L4, e1, if_false, cellsAt_s hi hl, h4 i r hr, Option.bind_some, fX_has_s hc, tb_cs hc, q, if_true, show ¬ (1 : Int32) = 0 by decide, nI_1]
      · simp only [fRectangles_countOver_L4, e1, if_false, cellsAt_s hi hl, h4 i r hr, Option.bind_some, fX_has_s hc, tb_cs hc, q, if_true, Int32.add_zero, Nat.add_zero, nI_1, Bool.false_eq_true])
    (fun N x hx => by simp only [fRectangles_countOver_L4, Int32.le_refl, if_true])
  subst hx
  unfold fRectangles_countOver
  try rw [nI_0] at e
  rw [h1, e]
  rfl
theorem M_covering (hF : 588 < F) (hm : MI nu (ML nu inF) m) {c : Nat} (hc : c < 42) : fM_covering F (nI c) m.1 m.2.1 = some (nI ((XL nu inF).countP (fun r => inb r.1 r.2 c))) := by
  obtain ⟨h1, h2, h3, h4, h5⟩ := hm
  have hl := ML_len nu inF
  rw [← (ML_perm nu inF).countP_eq]
  obtain ⟨x, hx, e⟩ := lpl (F := F) (ML nu inF) (by omega) (fun N i (x : Int32) => fM_covering_L4 F (nI c) (nI (ML nu inF).length) m.2.1 N x (nI i)) (fun x => (x, nI (ML nu inF).length)) (fun l x => x = nI (l.countP (fun r => inb r.1 r.2 c))) (a := 0) rfl
    (fun i r x hr hi hx => by
      subst hx
      refine ⟨_, rfl, fun N => ?_⟩
      rw [countP_snoc]
      have e1 : ¬ nI (ML nu inF).length ≤ nI i := nI_ge hi (by omega)
      have e2 : o_rd 1200 m.2.1 (nI i) = some (cs r) := by rw [o_rd_s (by omega) (by decide), h2 i r hr]
      by_cases q : inb r.1 r.2 c = true
      · simp only [fM_covering_L4, e1, if_false, e2, Option.bind_some, fM_has_s (show c < 64 by omega), tb_cs hc, q, if_true, show ¬ (1 : Int32) = 0 by decide, nI_1]
      · simp only [fM_covering_L4, e1, if_false, e2, Option.bind_some, fM_has_s (show c < 64 by omega), tb_cs hc, q, if_true, Int32.add_zero, Nat.add_zero, nI_1, Bool.false_eq_true])
    (fun N x hx => by simp only [fM_covering_L4, Int32.le_refl, if_true])
  subst hx
  unfold fM_covering
  try rw [nI_0] at e
  rw [h1, e]
  rfl
/-- the numbers with a rectangle over a cell -/
def clm (nu : Nat → Int32) (l : List (Nat × Nat)) (c k : Nat) : Bool := l.any (fun r => inb r.1 r.2 c && decide (own nu r = k))
theorem clm_snoc (l : List (Nat × Nat)) (r : Nat × Nat) (c k : Nat) : clm nu (l ++ [r]) c k = (clm nu l c k || (inb r.1 r.2 c && decide (own nu r = k))) := by
  unfold clm
  rw [List.any_append]
  simp
theorem X_countOwnersOver (hF : 588 < F) (ha : XI nu (XL nu inF) a) {c : Nat} (hc : c < 42) : fRectangles_countOwnersOver F (nI c) a.1 a.2.2.2.1 a.2.2.2.2 = some (nI (fb_ct (clm nu (XL nu inF) c) 42)) := by
  obtain ⟨h1, h2, h3, h4, h5⟩ := ha
  have hl := XL_len nu inF
  obtain ⟨x, hx, e⟩ := lpl (F := F) (XL nu inF) (by omega) (fun N i (x : Int64) => fRectangles_countOwnersOver_L5 F (nI c) (nI (XL nu inF).length) a.2.2.2.1 a.2.2.2.2 N x (nI i)) (fun x => (x, nI (XL nu inF).length)) (fun l x => x = cset (clm nu l c)) (a := 0) ((cset_0 _).mpr (fun k _ => rfl)).symm
    (fun i r x hr hi hx => by
      subst hx
      obtain ⟨-, -, ho, -, -⟩ := XL_get hr
      refine ⟨_, rfl, fun N => ?_⟩
      have e1 : ¬ nI (XL nu inF).length ≤ nI i := nI_ge hi (by omega)
      by_cases q : inb r.1 r.2 c = true
      · have e2 : cset (clm nu ((XL nu inF).take i ++ [r]) c) = cset (clm nu ((XL nu inF).take i) c) ||| cset (fun j => decide (j = own nu r)) := by
          rw [cset_or]
          exact cset_cong (fun k _ => by
            rw [clm_snoc, q, Bool.true_and]
            rw [show decide (own nu r = k) = decide (k = own nu r) from decide_eq_decide.mpr eq_comm])
        simp only [fRectangles_countOwnersOver_L5, e1, if_false, cellsAt_s hi hl, ownerAt_s hi hl, h4 i r hr, h5 i r hr, Option.bind_some, fX_has_s hc, tb_cs hc, q, if_true, show ¬ (1 : Int32) = 0 by decide, fX_bit_s ho, one_bit ho, e2, nI_1]
      · have e2 : cset (clm nu ((XL nu inF).take i ++ [r]) c) = cset (clm nu ((XL nu inF).take i) c) := cset_cong (fun k _ => by
            rw [clm_snoc, ts_nt q, Bool.false_and, Bool.or_false])
        simp only [fRectangles_countOwnersOver_L5, e1, if_false, cellsAt_s hi hl, h4 i r hr, Option.bind_some, fX_has_s hc, tb_cs hc, q, if_true, Int64.or_zero, e2, nI_1, Bool.false_eq_true])
    (fun N x hx => by simp only [fRectangles_countOwnersOver_L5, Int32.le_refl, if_true])
  subst hx
  unfold fRectangles_countOwnersOver
  try rw [nI_0] at e
  rw [h1, e, Option.bind_some]
  exact congrArg some (bc_cset _)
theorem M_claiming (hF : 588 < F) (hm : MI nu (ML nu inF) m) {c : Nat} (hc : c < 42) : fM_claiming F (nI c) m.1 m.2.1 m.2.2.1 = some (nI (fb_ct (clm nu (XL nu inF) c) 42)) := by
  obtain ⟨h1, h2, h3, h4, h5⟩ := hm
  have hl := ML_len nu inF
  obtain ⟨x, hx, e⟩ := lpl (F := F) (ML nu inF) (by omega) (fun N i (x : Int64) => fM_claiming_L5 F (nI c) (nI (ML nu inF).length) m.2.1 m.2.2.1 N x (nI i)) (fun x => (x, nI (ML nu inF).length)) (fun l x => x = cset (clm nu l c)) (a := 0) ((cset_0 _).mpr (fun k _ => rfl)).symm
    (fun i r x hr hi hx => by
      subst hx
      obtain ⟨-, hi2, -, ho, -, -⟩ := ML_get hr
      refine ⟨_, rfl, fun N => ?_⟩
      have e1 : ¬ nI (ML nu inF).length ≤ nI i := nI_ge hi (by omega)
      have e2 : o_rd 1200 m.2.1 (nI i) = some (cs r) := by rw [o_rd_s (by omega) (by decide), h2 i r hr]
      have e3 : o_rd 1200 m.2.2.1 (nI i) = some (nI (own nu r)) := by rw [o_rd_s (by omega) (by decide), h3 i r hr]
      by_cases q : inb r.1 r.2 c = true
      · have e4 : cset (clm nu ((ML nu inF).take i ++ [r]) c) = cset (clm nu ((ML nu inF).take i) c) ||| cset (fun j => decide (j = own nu r)) := by
          rw [cset_or]
          exact cset_cong (fun k _ => by
            rw [clm_snoc, q, Bool.true_and]
            rw [show decide (own nu r = k) = decide (k = own nu r) from decide_eq_decide.mpr eq_comm])
        simp only [fM_claiming_L5, e1, if_false, e2, e3, Option.bind_some, fM_has_s (show c < 64 by omega), tb_cs hc, q, if_true, show ¬ (1 : Int32) = 0 by decide, one_bit ho, e4, nI_1]
      · have e4 : cset (clm nu ((ML nu inF).take i ++ [r]) c) = cset (clm nu ((ML nu inF).take i) c) := cset_cong (fun k _ => by
            rw [clm_snoc, ts_nt q, Bool.false_and, Bool.or_false])
        simp only [fM_claiming_L5, e1, if_false, e2, Option.bind_some, fM_has_s (show c < 64 by omega), tb_cs hc, q, if_true, Int64.or_zero, e4, nI_1, Bool.false_eq_true])
    (fun N x hx => by simp only [fM_claiming_L5, Int32.le_refl, if_true])
  subst hx
  unfold fM_claiming
  try rw [nI_0] at e
  rw [h1, e, Option.bind_some, bits_cset (by omega)]
  refine congrArg (fun z => some (nI z)) (fb_ct_cong (fun k _ => ?_))
  unfold clm
  rw [Bool.eq_iff_iff, List.any_eq_true, List.any_eq_true]
  exact ⟨fun ⟨r, h1, h2⟩ => ⟨r, (ML_perm nu inF).mem_iff.mp h1, h2⟩, fun ⟨r, h1, h2⟩ => ⟨r, (ML_perm nu inF).mem_iff.mpr h1, h2⟩⟩
/-- the p-th with a property -/
theorem nth_of {α : Type} {q : α → Bool} {l : List α} {i : Nat} {r : α} (hr : l[i]? = some r) (hq : q r = true) : (l.filter q)[((l.take i).filter q).length]? = some r := by
  have e : l = l.take i ++ r :: l.drop (i + 1) := by
    have h := ts_lt hr
    have e2 : l[i] = r := by
      rw [List.getElem?_eq_getElem h] at hr
      exact Option.some.inj hr
    rw [← e2, ← List.drop_eq_getElem_cons h, List.take_append_drop]
  have e3 : l.filter q = (l.take i).filter q ++ r :: (l.drop (i + 1)).filter q := by
    conv => lhs; rw [e]
    rw [List.filter_append, List.filter_cons_of_pos hq]
  rw [e3, List.getElem?_append_right (Nat.le_refl _), Nat.sub_self]
  rfl
theorem X_indexOf (hF : 588 < F) (ha : XI nu (XL nu inF) a) {c p : Nat} (hc : c < 42) (hp : p < (LK nu inF c).length) : ∃ i r, (XL nu inF)[i]? = some r ∧ (LK nu inF c)[p]? = some r ∧ fRectangles_indexOf F (nI c) (nI p) a.1 a.2.2.2.2 = some (nI i) := by
  obtain ⟨h1, h2, h3, h4, h5⟩ := ha
  have hl := XL_len nu inF
  have hp2 : p < 588 := by
    have : (LK nu inF c).length ≤ (XL nu inF).length := List.length_filter_le _ _
    omega
  obtain ⟨z, ⟨i, r, hz, hr, hg⟩, e⟩ := lsr (XL nu inF).length (fun N i (x : Int32) => fRectangles_indexOf_L5 F (nI c) (nI p) (nI (XL nu inF).length) a.2.2.2.2 N x (nI i)) (fun i x => x = nI (((XL nu inF).take i).filter (fun r => decide (own nu r = c))).length ∧ (((XL nu inF).take i).filter (fun r => decide (own nu r = c))).length ≤ p) (fun z => ∃ i r, z = nI i ∧ (XL nu inF)[i]? = some r ∧ (LK nu inF c)[p]? = some r)
    (fun i x hi hx => by
      obtain ⟨rfl, hx⟩ := hx
      have hr : (XL nu inF)[i]? = some (XL nu inF)[i] := List.getElem?_eq_getElem hi
      generalize (XL nu inF)[i] = r at hr
      obtain ⟨-, -, ho, -, -⟩ := XL_get hr
      have e1 : ¬ nI (XL nu inF).length ≤ nI i := nI_ge hi (by omega)
      rw [List.take_succ, hr]
      by_cases q : own nu r = c
      · by_cases q2 : (((XL nu inF).take i).filter (fun r => decide (own nu r = c))).length = p
        · refine Or.inl ⟨nI i, ⟨i, r, rfl, hr, ?_⟩, fun N => ?_⟩
          · have := nth_of (q := fun r => decide (own nu r = c)) hr (decide_eq_true q)
            rw [q2] at this
            exact this
          · simp only [fRectangles_indexOf_L5, e1, if_false, ownerAt_s hi hl, h5 i r hr, Option.bind_some, q, q2, not_true_eq_false]
        · refine Or.inr ⟨nI ((((XL nu inF).take i).filter (fun r => decide (own nu r = c))).length + 1), ⟨?_, ?_⟩, fun N => ?_⟩
          · rw [List.filter_append, List.length_append]
            simp [q]
          · rw [List.filter_append, List.length_append]
            simp [q]
            omega
          · have q3 : ¬ nI (((XL nu inF).take i).filter (fun r => decide (own nu r = c))).length = nI p := fun e => q2 (nI_inj (by omega) (by omega) e)
            simp only [fRectangles_indexOf_L5, e1, if_false, ownerAt_s hi hl, h5 i r hr, Option.bind_some, q, q3, not_true_eq_false, not_false_eq_true, if_true, nI_1]
      · refine Or.inr ⟨nI (((XL nu inF).take i).filter (fun r => decide (own nu r = c))).length, ⟨?_, ?_⟩, fun N => ?_⟩
        · rw [List.filter_append, List.length_append]
          simp [q]
        · rw [List.filter_append, List.length_append]
          simp [q]
          omega
        · have q3 : ¬ nI (own nu r) = nI c := fun e => q (nI_inj (by omega) (by omega) e)
          simp only [fRectangles_indexOf_L5, e1, if_false, ownerAt_s hi hl, h5 i r hr, Option.bind_some, q3, not_false_eq_true, if_true, nI_1])
    (fun N x hx => by
      rw [List.take_length] at hx
      have : (LK nu inF c).length ≤ p := hx.2
      omega) (XL nu inF).length 0 F (nI 0) (Nat.zero_add _) (by omega) ⟨rfl, Nat.zero_le _⟩
  subst hz
  refine ⟨i, r, hr, hg, ?_⟩
  unfold fRectangles_indexOf
  rw [h1]
  exact e
theorem M_possibleAt (hF : 588 < F) (hm : MI nu (ML nu inF) m) {row col : Int32} {c : Nat} (hrc : ((7 : Int32) * row) + col = nI c) (hc : c < 42) (x th : Int32) : (∃ p r, x = nI p ∧ p < 2 ^ 31 ∧ (LK nu inF c)[p]? = some r ∧ fM_possibleAt_L22 F row col th m.1 m.2.2.2.2 m.2.1 m.2.2.1 m.2.2.2.1 F x 0 = some (cdO r, th, m.1, m.2.2.2.2, m.2.1, m.2.2.1, m.2.2.2.1)) ∨ ((∀ p, x = nI p → p < 2 ^ 31 → (LK nu inF c).length ≤ p) ∧ fM_possibleAt_L22 F row col th m.1 m.2.2.2.2 m.2.1 m.2.2.1 m.2.2.2.1 F x 0 = some (0, 1, m.1, m.2.2.2.2, m.2.1, m.2.2.1, m.2.2.2.1)) := by
  obtain ⟨h1, h2, h3, h4, h5⟩ := hm
  have hl := ML_len nu inF
  have hLK := ML_own nu inF hc
  obtain ⟨z, hz, e⟩ := lsr (ML nu inF).length (fun N i (y : Int32) => fM_possibleAt_L22 F row col th m.1 m.2.2.2.2 m.2.1 m.2.2.1 m.2.2.2.1 N y (nI i)) (fun i y => y = x - nI (((ML nu inF).take i).filter (fun r => decide (own nu r = c))).length ∧ ∀ p, x = nI p → p < 2 ^ 31 → (((ML nu inF).take i).filter (fun r => decide (own nu r = c))).length ≤ p) (fun z => (∃ p r, x = nI p ∧ p < 2 ^ 31 ∧ (LK nu inF c)[p]? = some r ∧ z = (cdO r, th, m.1, m.2.2.2.2, m.2.1, m.2.2.1, m.2.2.2.1)) ∨ ((∀ p, x = nI p → p < 2 ^ 31 → (LK nu inF c).length ≤ p) ∧ z = ((0 : Int32), (1 : Int32), m.1, m.2.2.2.2, m.2.1, m.2.2.1, m.2.2.2.1)))
    (fun i y hi hy => by
      obtain ⟨rfl, hy⟩ := hy
      have hr : (ML nu inF)[i]? = some (ML nu inF)[i] := List.getElem?_eq_getElem hi
      generalize (ML nu inF)[i] = r at hr
      obtain ⟨-, hi2, -, ho, -, -⟩ := ML_get hr
      have e1 : ¬ m.1 ≤ nI i := by rw [h1]; exact nI_ge hi (by omega)
      have e2 : o_rd 1200 m.2.2.1 (nI i) = some (nI (own nu r)) := by rw [o_rd_s (by omega) (by decide), h3 i r hr]
      have e3 : o_rd 1200 m.2.2.2.1 (nI i) = some (cdO r) := by rw [o_rd_s (by omega) (by decide), h4 i r hr]
      have hlt : (((ML nu inF).take i).filter (fun r => decide (own nu r = c))).length ≤ 588 := by
        have a1 := List.length_filter_le (fun r => decide (own nu r = c)) ((ML nu inF).take i)
        have a2 := List.length_take_le i (ML nu inF)
        omega
      rw [List.take_succ, hr]
      have hnth := nth_of (q := fun r => decide (own nu r = c)) hr
      generalize hn : (((ML nu inF).take i).filter (fun r => decide (own nu r = c))).length = n at hy hlt hnth
      by_cases q : own nu r = c
      · have hnth := hnth (decide_eq_true q)
        rw [hLK] at hnth
        by_cases q2 : x = nI n
        · refine Or.inl ⟨_, Or.inl ⟨n, r, q2, by omega, hnth, rfl⟩, fun N => ?_⟩
          have q3 : x - nI n = 0 := by rw [q2, Int32.sub_self]
          simp only [fM_possibleAt_L22, e1, if_false, e2, Option.bind_some, hrc, q, not_true_eq_false, q3, e3]
        · refine Or.inr ⟨x - nI (n + 1), ⟨?_, fun p hp hp2 => ?_⟩, fun N => ?_⟩
          · rw [List.filter_append, List.length_append, hn]
            simp [q]
          · rw [List.filter_append, List.length_append, hn]
            have := hy p hp hp2
            have h2 : n ≠ p := fun e => q2 (by rw [hp, e])
            simp [q]
            omega
          · have q3 : ¬ x - nI n = 0 := fun e => q2 (by
              have : x = x - nI n + nI n := (Int32.sub_add_cancel _ _).symm
              rw [this, e, Int32.zero_add])
            have q4 : (x - nI n) + (-1) = x - nI (n + 1) := by
              rw [← nI_1, Int32.sub_eq_add_neg, Int32.sub_eq_add_neg, Int32.neg_add, Int32.sub_eq_add_neg, Int32.add_assoc]
            simp only [fM_possibleAt_L22, e1, if_false, e2, Option.bind_some, hrc, q, not_true_eq_false, q3, not_false_eq_true, if_true, q4, nI_1]
      · refine Or.inr ⟨x - nI n, ⟨?_, fun p hp hp2 => ?_⟩, fun N => ?_⟩
        · rw [List.filter_append, List.length_append, hn]
          simp [q]
        · rw [List.filter_append, List.length_append, hn]
          have := hy p hp hp2
          simp [q]
          omega
        · have q3 : ¬ nI (own nu r) = nI c := fun e => q (nI_inj (by omega) (by omega) e)
          simp only [fM_possibleAt_L22, e1, if_false, e2, Option.bind_some, hrc, q3, not_false_eq_true, if_true, nI_1])
    (fun N y hy => by
      obtain ⟨-, hy⟩ := hy
      rw [List.take_length, hLK] at hy
      refine ⟨_, Or.inr ⟨hy, rfl⟩, ?_⟩
      have e1 : m.1 ≤ nI (ML nu inF).length := by rw [h1]; exact Int32.le_refl _
      simp only [fM_possibleAt_L22, e1, if_true, fM_throwing, Option.bind_some]) (ML nu inF).length 0 F x (Nat.zero_add _) (by omega) ⟨by simp [nI_0], fun p _ _ => Nat.zero_le _⟩
  rcases hz with ⟨p, r, g1, g2, g3, g4⟩ | ⟨g1, g2⟩
  · exact Or.inl ⟨p, r, g1, g2, g3, by rw [← g4]; exact e⟩
  · exact Or.inr ⟨g1, by rw [← g2]; exact e⟩
end A
