/-! THE MATHEMATICS: sets of cells, lists in order, what lies in a row of a list. Own text. -/
theorem ts_lt {α : Type} {l : List α} {i : Nat} {x : α} (h : l[i]? = some x) : i < l.length := (List.getElem?_eq_some_iff.mp h).1
theorem lpl {α σ ρ : Type} {F : Nat} (l : List α) (hF : l.length < F) (L : Nat → Nat → σ → Option ρ) (fin : σ → ρ) (I : List α → σ → Prop) {a : σ} (h0 : I [] a) (hs : ∀ i x a, l[i]? = some x → i < l.length → I (l.take i) a → ∃ a', I (l.take i ++ [x]) a' ∧ ∀ N, L (N + 1) i a = L N (i + 1) a') (he : ∀ N a, I l a → L (N + 1) l.length a = some (fin a)) : ∃ a', I l a' ∧ L F 0 a = some (fin a') := by
  obtain ⟨a', h', e⟩ := lp0 l.length hF L fin (fun i a => I (l.take i) a) (a := a) (by rw [List.take_zero]; exact h0)
    (fun i a hi h => by
      have hx : l[i]? = some l[i] := List.getElem?_eq_getElem hi
      obtain ⟨a', h', e'⟩ := hs i l[i] a hx hi h
      refine ⟨a', ?_, e'⟩
      rw [List.take_succ, hx]
      exact h')
    (fun N a h => he N a (by rw [List.take_length] at h; exact h))
  exact ⟨a', by rw [List.take_length] at h'; exact h', e⟩
/-- a row holds a list -/
def AG {α β : Type} (l : List α) (f : Nat → β) (g : α → β) : Prop := ∀ i x, l[i]? = some x → f i = g x
theorem AG.nil {α β : Type} {f : Nat → β} {g : α → β} : AG [] f g := fun i x h => by rw [List.getElem?_nil] at h; cases h
theorem AG.push {α β : Type} {l : List α} {f f' : Nat → β} {g : α → β} {y : α} (h : AG l f g) (h1 : f' l.length = g y) (h2 : ∀ j, j < l.length → f' j = f j) : AG (l ++ [y]) f' g := fun i x hx => by
  by_cases q : i < l.length
  · rw [List.getElem?_append_left q] at hx
    rw [h2 i q]
    exact h i x hx
  · have hl := ts_lt hx
    rw [List.length_append, List.length_singleton] at hl
    have q2 : i = l.length := by omega
    subst q2
    rw [List.getElem?_append_right (Nat.le_refl _), Nat.sub_self] at hx
    have : y = x := by simpa using hx
    rw [h1, this]
theorem updL_at (f : Nat → Int64) (k : Nat) (x : Int64) : vp_updL f k x k = x := by unfold vp_updL; rw [if_pos rfl]
theorem updL_off (f : Nat → Int64) {k j : Nat} (x : Int64) (h : j ≠ k) : vp_updL f k x j = f j := by unfold vp_updL; rw [if_neg h]
theorem AG.pushI {α : Type} {l : List α} {f : Nat → Int32} {g : α → Int32} (y : α) (h : AG l f g) : AG (l ++ [y]) (upd f l.length (g y)) g := h.push (upd_at _ _ _) (fun j hj => upd_off _ _ (Nat.ne_of_lt hj))
theorem AG.pushJ {α : Type} {l : List α} {f : Nat → Int64} {g : α → Int64} (y : α) (h : AG l f g) : AG (l ++ [y]) (vp_updL f l.length (g y)) g := h.push (updL_at _ _ _) (fun j hj => updL_off _ _ (Nat.ne_of_lt hj))
theorem cset_ex (p : Nat → Bool) : ∀ n, n ≤ 42 → ∃ x : Int64, ∀ k, tb x k = (decide (k < n) && p k)
  | 0, _ => ⟨0, fun k => by rw [tb_0]; simp⟩
  | n + 1, hn => by
    obtain ⟨x, hx⟩ := cset_ex p n (by omega)
    by_cases h : p n = true
    · refine ⟨x ||| ((1 : Int64) <<< ((nI n).toInt64 &&& 63)), fun k => ?_⟩
      rw [tb_or, tb_bit (by omega), hx k]
      by_cases q : k = n
      · subst q; simp [h]
      · rw [dec_succ k n q]; simp [q]
    · refine ⟨x, fun k => ?_⟩
      rw [hx k]
      by_cases q : k = n
      · subst q; simp [h]
      · rw [dec_succ k n q]
noncomputable def cset (p : Nat → Bool) : Int64 := Classical.choose (cset_ex p 42 (Nat.le_refl _))
theorem tb_cset (p : Nat → Bool) (k : Nat) : tb (cset p) k = (decide (k < 42) && p k) := Classical.choose_spec (cset_ex p 42 (Nat.le_refl _)) k
theorem tb_cset' (p : Nat → Bool) {k : Nat} (hk : k < 42) : tb (cset p) k = p k := by rw [tb_cset, decide_eq_true hk, Bool.true_and]
theorem cset_of {x : Int64} {p : Nat → Bool} (h : ∀ k, tb x k = (decide (k < 42) && p k)) : x = cset p := tb_eq (fun k => by rw [h k, tb_cset])
theorem inB_cset (p : Nat → Bool) : inB (cset p) := inB_of (tb_cset p)
theorem inB_cs {x : Int64} (h : inB x) : x = cset (tb x) := cset_of (fun k => by
  by_cases q : k < 42
  · rw [decide_eq_true q, Bool.true_and]
  · rw [h k (by omega), decide_eq_false q]; rfl)
theorem cset_cong {p q : Nat → Bool} (h : ∀ k, k < 42 → p k = q k) : cset p = cset q := tb_eq (fun k => by
  rw [tb_cset, tb_cset]
  by_cases e : k < 42
  · rw [h k e]
  · rw [decide_eq_false e]; rfl)
theorem cset_inj {p q : Nat → Bool} (h : cset p = cset q) {k : Nat} (hk : k < 42) : p k = q k := by
  have := congrArg (fun x => tb x k) h
  simp only [tb_cset' _ hk] at this
  exact this
theorem cset_and (p q : Nat → Bool) : cset p &&& cset q = cset (fun k => p k && q k) := tb_eq (fun k => by
  rw [tb_and, tb_cset, tb_cset, tb_cset]
  cases decide (k < 42) <;> rfl)
theorem cset_or (p q : Nat → Bool) : cset p ||| cset q = cset (fun k => p k || q k) := tb_eq (fun k => by
  rw [tb_or, tb_cset, tb_cset, tb_cset]
  cases decide (k < 42) <;> rfl)
theorem tb_not (x : Int64) {k : Nat} (hk : k < 64) : tb (x ^^^ (-1)) k = !tb x k := by
  rw [tb_xor, tb_m1 hk]
  cases tb x k <;> rfl
theorem ALL_cs : ALL = cset (fun _ => true) := cset_of (fun k => by rw [tb_ALL, Bool.and_true])
theorem ALL_and {x : Int64} : ALL &&& x = cset (tb x) := cset_of (fun k => by rw [tb_and, tb_ALL])
theorem and_not (p : Nat → Bool) (x : Int64) : cset p &&& (x ^^^ (-1)) = cset (fun k => p k && !tb x k) := cset_of (fun k => by
  rw [tb_and, tb_cset]
  by_cases q : k < 42
  · rw [tb_not x (by omega), Bool.and_assoc]
  · rw [decide_eq_false q]; rfl)
theorem cset_0 (p : Nat → Bool) : cset p = 0 ↔ ∀ k, k < 42 → p k = false := by
  constructor
  · intro h k hk
    rw [← tb_cset' p hk, h, tb_0]
  · intro h
    refine tb_eq (fun k => ?_)
    rw [tb_cset, tb_0]
    by_cases q : k < 42
    · rw [h k q, Bool.and_false]
    · rw [decide_eq_false q]; rfl
theorem cset_n0 (p : Nat → Bool) : ¬ cset p = 0 ↔ ∃ k, k < 42 ∧ p k = true := by
  constructor
  · intro h
    apply Classical.byContradiction
    intro c
    refine h ((cset_0 p).mpr (fun k hk => ?_))
    cases e : p k with
    | false => rfl
    | true => exact absurd ⟨k, hk, e⟩ c
  · rintro ⟨k, hk, h⟩ e
    rw [(cset_0 p).mp e k hk] at h
    cases h
theorem cset_ct0 (p : Nat → Bool) : cset p = 0 ↔ fb_ct p 42 = 0 := (cset_0 p).trans fb_ct_zero.symm
theorem bc_cset (p : Nat → Bool) : fJ_bitCount (cset p) = nI (fb_ct p 42) := by
  rw [bc_42 (inB_cset p)]
  exact congrArg nI (fb_ct_cong (fun k hk => tb_cset' p hk))
theorem bits_cset {F : Nat} (hF : 42 < F) (p : Nat → Bool) : fM_bits F (cset p) = some (nI (fb_ct p 42)) := by
  rw [bits_s hF]
  exact congrArg (fun z => some (nI z)) (fb_ct_cong (fun k hk => tb_cset' p hk))
theorem first_of {p : Nat → Bool} {n k : Nat} (hk : k < n) (h : p k = true) (h0 : ∀ j, j < k → p j = false) : fa_first p n = k := by
  have h1 : ¬ k < fa_first p n := fun q => by rw [fa_first_no p n k q] at h; cases h
  have h2 := fa_first_yes p n (by omega)
  apply Classical.byContradiction
  intro c
  rw [h0 _ (by omega)] at h2
  cases h2
theorem first_cong {p q : Nat → Bool} {n : Nat} (h : ∀ k, k < n → p k = q k) : fa_first p n = fa_first q n := by
  by_cases e : fa_first p n < n
  · exact (first_of e (by rw [← h _ e]; exact fa_first_yes p n e) (fun j hj => by rw [← h j (by omega)]; exact fa_first_no p n j hj)).symm
  · have h1 := fa_first_le p n
    have h2 := fa_first_le q n
    by_cases e2 : fa_first q n < n
    · have h3 := fa_first_yes q n e2
      rw [← h _ e2, fa_first_no p n _ (by omega)] at h3
      cases h3
    · omega
theorem lowest_cset {F : Nat} (hF : 42 < F) (x : Int64) : fM_lowest F x = some (nI (fa_first (tb x) 42)) := by
  obtain ⟨j, h1, h2, h3, h4⟩ := lowest_s hF x
  rw [h2]
  refine congrArg (fun z => some (nI z)) ?_
  by_cases e : j < 42
  · exact (first_of e (h4 e) h3).symm
  · have h5 := fa_first_le (tb x) 42
    by_cases e2 : fa_first (tb x) 42 < 42
    · have := fa_first_yes (tb x) 42 e2
      rw [h3 _ (by omega)] at this
      cases this
    · omega
theorem lowBit {x : Int64} {j : Nat} (hj : j < 63) (h : tb x j = true) (h0 : ∀ i, i < j → tb x i = false) : x &&& (-x) = lN (2 ^ j) := by
  refine tb_ext (fun i hi => ?_)
  rw [tb_and, tb_lN hi, Nat.testBit_two_pow]
  have hn : tb (-x) i = (tb x i ^^ (decide (i < 64) && decide (∃ k, k < i ∧ tb x k = true))) := by
    unfold tb
    rw [Int64.toBitVec_neg, BitVec.getLsbD_neg]
  rw [hn, decide_eq_true hi, Bool.true_and]
  by_cases e1 : i < j
  · rw [h0 i e1]
    simp [show ¬ j = i by omega]
  · by_cases e2 : j = i
    · subst e2
      rw [h, decide_eq_false (by
        rintro ⟨k, hk, e⟩
        rw [h0 k hk] at e
        cases e)]
      simp
    · rw [decide_eq_true ⟨j, by omega, h⟩]
      simp [e2]
theorem lowest_X (p : Nat → Bool) : fX_lowestCell (cset p) = some (nI (fa_first p 42)) := by
  unfold fX_lowestCell
  by_cases q : cset p = 0
  · rw [if_neg (not_not_intro q)]
    have h0 := (cset_0 p).mp q
    have h1 := fa_first_le p 42
    by_cases e : fa_first p 42 < 42
    · have := fa_first_yes p 42 e
      rw [h0 _ e] at this
      cases this
    · rw [show fa_first p 42 = 42 by omega]
      rfl
  · rw [if_pos q]
    obtain ⟨k, hk, hp⟩ := (cset_n0 p).mp q
    have hj : fa_first p 42 < 42 := by
      apply Classical.byContradiction
      intro c
      rw [fa_first_no p 42 k (by omega)] at hp
      cases hp
    have hy := fa_first_yes p 42 hj
    have hn := fa_first_no p 42
    generalize fa_first p 42 = j at hj hy hn
    rw [lowBit (by omega : j < 63) (by rw [tb_cset' p hj]; exact hy) (fun i hi => by rw [tb_cset' p (by omega)]; exact hn i hi)]
    have hpos : 0 < 2 ^ j := Nat.pow_pos (by decide)
    have hlt : 2 ^ j < 2 ^ 64 := Nat.pow_lt_pow_right (by decide) (by omega)
    have e1 : lN (2 ^ j) - 1 = lN (2 ^ j - 1) := by
      have : lN (2 ^ j) = lN (2 ^ j - 1) + 1 := by
        have h2 : 2 ^ j = 2 ^ j - 1 + 1 := by omega
        have h3 : lN (2 ^ j - 1) + lN 1 = lN (2 ^ j - 1 + 1) := (Int64.ofNat_add _ _).symm
        rw [show (1 : Int64) = lN 1 from rfl, h3, ← h2]
      rw [this, Int64.add_sub_cancel]
    rw [e1, bc_s (by omega)]
    refine congrArg (fun z => some (nI z)) ?_
    have h4 : ∀ n, fb_ct (fun k => (2 ^ j - 1).testBit k) n = if n ≤ j then n else j := by
      intro n
      induction n with
      | zero => rw [if_pos (Nat.zero_le _)]; rfl
      | succ n ih =>
        rw [fb_ct_succ, ih]
        simp only [Nat.testBit_two_pow_sub_one]
        by_cases a : n < j
        · rw [if_pos (by omega), if_pos (by rw [decide_eq_true a]), if_pos (by omega)]
        · rw [if_neg (c := n + 1 ≤ j) (by omega), decide_eq_false a]
          by_cases b : n ≤ j
          · rw [if_pos b]
            simp
            omega
          · rw [if_neg b]
            simp
    rw [h4, if_neg (by omega)]
/-! lists in the order of a key -/
theorem fk_succ {α : Type} {key : α → Nat} : ∀ {l : List α}, l.Pairwise (fun x y => key x < key y) → ∀ K, l.filter (fun r => decide (key r < K + 1)) = l.filter (fun r => decide (key r < K)) ++ l.filter (fun r => decide (key r = K))
  | [], _, _ => rfl
  | x :: t, h, K => by
    obtain ⟨h1, h2⟩ := List.pairwise_cons.mp h
    have ih := fk_succ h2 K
    rw [List.filter_cons, List.filter_cons, List.filter_cons]
    by_cases q : key x < K
    · rw [if_pos (show decide (key x < K + 1) = true from decide_eq_true (by omega)), if_pos (show decide (key x < K) = true from decide_eq_true q), if_neg (show ¬ decide (key x = K) = true from fun e => by have := of_decide_eq_true e; omega), ih]
      rfl
    · have e : t.filter (fun r => decide (key r < K)) = [] := List.filter_eq_nil_iff.mpr (fun y hy e => by have := h1 y hy; have := of_decide_eq_true e; omega)
      rw [if_neg (show ¬ decide (key x < K) = true from fun e => q (of_decide_eq_true e))]
      by_cases q2 : key x = K
      · have e3 : t.filter (fun r => decide (key r = K)) = [] := List.filter_eq_nil_iff.mpr (fun y hy e => by have := h1 y hy; have := of_decide_eq_true e; omega)
        rw [if_pos (show decide (key x < K + 1) = true from decide_eq_true (by omega)), if_pos (show decide (key x = K) = true from decide_eq_true q2), ih, e, e3]
        rfl
      · rw [if_neg (show ¬ decide (key x < K + 1) = true from fun e => by have := of_decide_eq_true e; omega), if_neg (show ¬ decide (key x = K) = true from fun e => q2 (of_decide_eq_true e)), ih]
theorem fk_one {α : Type} {key : α → Nat} : ∀ {l : List α}, l.Pairwise (fun x y => key x < key y) → ∀ {r}, r ∈ l → l.filter (fun x => decide (key x = key r)) = [r]
  | [], _, _, hr => by cases hr
  | x :: t, h, r, hr => by
    obtain ⟨h1, h2⟩ := List.pairwise_cons.mp h
    rw [List.filter_cons]
    rcases List.mem_cons.mp hr with rfl | hr
    · have e3 : t.filter (fun x => decide (key x = key r)) = [] := List.filter_eq_nil_iff.mpr (fun y hy e => by have := h1 y hy; have := of_decide_eq_true e; omega)
      rw [if_pos (show decide (key r = key r) = true from decide_eq_true rfl), e3]
    · rw [if_neg (show ¬ decide (key x = key r) = true from fun e => by have := h1 r hr; have := of_decide_eq_true e; omega)]
      exact fk_one h2 hr
theorem fk_inj {α : Type} {key : α → Nat} {l : List α} (h : l.Pairwise (fun x y => key x < key y)) {x y : α} (hx : x ∈ l) (hy : y ∈ l) (e : key x = key y) : x = y := by
  have h1 := fk_one h hy
  have h2 : x ∈ l.filter (fun z => decide (key z = key y)) := List.mem_filter.mpr ⟨hx, decide_eq_true e⟩
  rw [h1] at h2
  exact List.mem_singleton.mp h2
theorem own_perm {α : Type} (ow : α → Nat) (l : List α) : ∀ n, ((List.range n).flatMap (fun k => l.filter (fun r => decide (ow r = k)))).Perm (l.filter (fun r => decide (ow r < n)))
  | 0 => by
    rw [List.filter_eq_nil_iff.mpr (fun y _ e => by have := of_decide_eq_true e; omega)]
    exact List.Perm.nil
  | n + 1 => by
    rw [List.range_succ, List.flatMap_append]
    have h1 := List.filter_append_perm (fun r => decide (ow r < n)) (l.filter (fun r => decide (ow r < n + 1)))
    rw [List.filter_filter, List.filter_filter] at h1
    have e1 : l.filter (fun a => decide (ow a < n) && decide (ow a < n + 1)) = l.filter (fun r => decide (ow r < n)) := List.filter_congr (fun x _ => by
      by_cases q : ow x < n
      · rw [decide_eq_true q, decide_eq_true (by omega)]; rfl
      · rw [decide_eq_false q]; rfl)
    have e2 : l.filter (fun a => (!decide (ow a < n)) && decide (ow a < n + 1)) = l.filter (fun r => decide (ow r = n)) := List.filter_congr (fun x _ => by
      by_cases q : ow x < n
      · rw [decide_eq_true q, decide_eq_false (show ¬ ow x = n by omega)]; rfl
      · by_cases q2 : ow x = n
        · rw [decide_eq_false q, decide_eq_true q2, decide_eq_true (by omega)]; rfl
        · rw [decide_eq_false q2, decide_eq_false (show ¬ ow x < n + 1 by omega), Bool.and_false])
    rw [e1, e2] at h1
    refine List.Perm.trans ?_ h1
    refine (own_perm ow l n).append ?_
    rw [List.flatMap_singleton]
theorem ct_one {p : Nat → Bool} {n : Nat} (h : fb_ct p n = 1) : fa_first p n < n ∧ p (fa_first p n) = true ∧ ∀ j, j < n → p j = true → j = fa_first p n := by
  obtain ⟨k, hk, hp⟩ := fb_ct_pos.mp (by omega : 0 < fb_ct p n)
  have hz : ∀ j, j < n → p j = true → fb_ct p j = 0 := fun j hj hpj => by
    have h1 := fb_ct_mono p (show j + 1 ≤ n by omega)
    rw [fb_ct_succ, if_pos hpj] at h1
    omega
  have hu : ∀ j, j < n → p j = true → j = k := fun j hj hpj => fb_ct_kth_one hpj hp (by rw [hz j hj hpj, hz k hk hp])
  have e : fa_first p n = k := first_of hk hp (fun j hj => by
    cases e : p j with
    | false => rfl
    | true => have := hu j (by omega) e; omega)
  rw [e]
  exact ⟨hk, hp, hu⟩
theorem ct_one_of {p : Nat → Bool} {n k : Nat} (hk : k < n) (hp : p k = true) (hu : ∀ j, j < n → p j = true → j = k) : fb_ct p n = 1 ∧ fa_first p n = k := by
  refine ⟨?_, first_of hk hp (fun j hj => by
    cases e : p j with
    | false => rfl
    | true => have := hu j (by omega) e; omega)⟩
  obtain ⟨m, rfl⟩ : ∃ m, n = k + 1 + m := ⟨n - (k + 1), by omega⟩
  rw [fb_ct_split, fb_ct_succ, if_pos hp, fb_ct_zero.mpr (fun j hj => by
    cases e : p j with
    | false => rfl
    | true => have := hu j (by omega) e; omega), fb_ct_zero.mpr (fun j hj => by
    cases e : p (k + 1 + j) with
    | false => rfl
    | true => have := hu (k + 1 + j) (by omega) e; omega)]
