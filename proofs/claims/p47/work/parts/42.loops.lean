/-! THE MATHEMATICS: loops by what holds at each turn; the sets of cells. Own text. -/
theorem lp {σ ρ : Type} (n : Nat) (L : Nat → Nat → σ → Option ρ) (fin : σ → ρ) (I : Nat → σ → Prop) (hs : ∀ i a, i < n → I i a → ∃ a', I (i + 1) a' ∧ ∀ N, L (N + 1) i a = L N (i + 1) a') (he : ∀ N a, I n a → L (N + 1) n a = some (fin a)) : ∀ (k i N : Nat) (a : σ), i + k = n → k < N → I i a → ∃ a', I n a' ∧ L N i a = some (fin a')
  | 0, i, N, a, hi, hN, h => by
    obtain ⟨M, rfl⟩ : ∃ M, N = M + 1 := ⟨N - 1, by omega⟩
    rw [Nat.add_zero] at hi
    subst hi
    exact ⟨a, h, he M a h⟩
  | k + 1, i, N, a, hi, hN, h => by
    obtain ⟨M, rfl⟩ : ∃ M, N = M + 1 := ⟨N - 1, by omega⟩
    obtain ⟨a1, h1, e1⟩ := hs i a (by omega) h
    obtain ⟨a', h', e'⟩ := lp n L fin I hs he k (i + 1) M a1 (by omega) (by omega) h1
    exact ⟨a', h', (e1 M).trans e'⟩
theorem lp0 {σ ρ : Type} {F : Nat} (n : Nat) (hF : n < F) (L : Nat → Nat → σ → Option ρ) (fin : σ → ρ) (I : Nat → σ → Prop) {a : σ} (h0 : I 0 a) (hs : ∀ i a, i < n → I i a → ∃ a', I (i + 1) a' ∧ ∀ N, L (N + 1) i a = L N (i + 1) a') (he : ∀ N a, I n a → L (N + 1) n a = some (fin a)) : ∃ a', I n a' ∧ L F 0 a = some (fin a') :=
  lp n L fin I hs he n 0 F a (Nat.zero_add n) hF h0
theorem o_rd_s {α : Type} {n i : Nat} {f : Nat → α} (h : i < n) (hn : n < 2 ^ 31) : o_rd n f (nI i) = some (f i) := by
  unfold o_rd
  rw [if_neg (nI_in h hn), nI_clamp (by omega)]
theorem o_wrI_s {n i : Nat} {f : Nat → Int32} {x : Int32} (h : i < n) (hn : n < 2 ^ 31) : o_wrI n f (nI i) x = some (upd f i x) := by
  unfold o_wrI
  rw [if_neg (nI_in h hn), nI_clamp (by omega)]
theorem o_wrJ_s {n i : Nat} {f : Nat → Int64} {x : Int64} (h : i < n) (hn : n < 2 ^ 31) : o_wrJ n f (nI i) x = some (vp_updL f i x) := by
  unfold o_wrJ
  rw [if_neg (nI_in h hn), nI_clamp (by omega)]
theorem o_wrZ_s0 {n i : Nat} {f : Nat → Int32} (h : i < n) (hn : n < 2 ^ 31) : o_wrZ n f (nI i) 0 = some (upd f i 0) := by
  unfold o_wrZ
  rw [if_neg (nI_in h hn), nI_clamp (by omega)]
  rfl
theorem o_wrZ_s1 {n i : Nat} {f : Nat → Int32} (h : i < n) (hn : n < 2 ^ 31) : o_wrZ n f (nI i) 1 = some (upd f i 1) := by
  unfold o_wrZ
  rw [if_neg (nI_in h hn), nI_clamp (by omega)]
  rfl
theorem o_wrZ_sb {n i : Nat} {f : Nat → Int32} {x : Int32} (h : i < n) (hn : n < 2 ^ 31) (hx : x = 0 ∨ x = 1) : o_wrZ n f (nI i) x = some (upd f i x) := by
  rcases hx with rfl | rfl
  · exact o_wrZ_s0 h hn
  · exact o_wrZ_s1 h hn
theorem upd_at (f : Nat → Int32) (k : Nat) (x : Int32) : upd f k x k = x := by unfold upd; rw [if_pos rfl]
theorem upd_off (f : Nat → Int32) {k j : Nat} (x : Int32) (h : j ≠ k) : upd f k x j = f j := by unfold upd; rw [if_neg h]
theorem nI_mul (a b : Nat) : nI a * nI b = nI (a * b) := (Int32.ofNat_mul a b).symm
theorem nI_sub {a b : Nat} (h : b ≤ a) : nI a - nI b = nI (a - b) := by
  have e : nI a = nI (a - b) + nI b := by rw [nI_add, Nat.sub_add_cancel h]
  rw [e, Int32.add_sub_cancel]
theorem nI_d7 {a : Nat} (h : a < 2 ^ 31) : nI a / 7 = nI (a / 7) := pk_div (d := 7) h (by decide) (by decide)
theorem nI_r7 {a : Nat} (h : a < 2 ^ 31) : nI a - nI a / 7 * 7 = nI (a % 7) := pk_rem (d := 7) h (by decide) (by decide)
theorem dec_succ (k i : Nat) (h : ¬ k = i) : decide (k < i + 1) = decide (k < i) := by
  have : (k < i + 1) ↔ (k < i) := by omega
  simp only [this]
/-- two sets with the same cells below 42, and none above -/
theorem tb_eq {x y : Int64} (h : ∀ k, tb x k = tb y k) : x = y := tb_ext (fun i _ => h i)
theorem cellsInFields_s {F : Nat} (hF : 42 < F) (inF : Nat → Int32) : ∃ x, fBoard_cellsInFields F inF = some x ∧ ∀ k, tb x k = (decide (k < 42) && decide (inF k ≠ 0)) := by
  obtain ⟨a, ha, e⟩ := lp0 42 hF (fun N i (a : Int64) => fBoard_cellsInFields_L4 F inF N a (nI i)) (fun a => (a, nI 42)) (fun i a => ∀ k, tb a k = (decide (k < i) && decide (inF k ≠ 0))) (a := 0)
    (fun k => by rw [tb_0]; simp)
    (fun i a hi ha => by
      have e1 := ge42 hi
      by_cases h : inF i = 0
      · refine ⟨a, fun k => ?_, fun N => ?_⟩
        · rw [ha k]
          by_cases q : k = i
          · subst q; simp [h]
          · rw [dec_succ k i q]
        · simp only [fBoard_cellsInFields_L4, e1, if_false, o_rd_s hi (show 42 < 2 ^ 31 by decide), Option.bind_some, h, if_true, Int64.or_zero, nI_1]
      · refine ⟨a ||| ((1 : Int64) <<< ((nI i).toInt64 &&& 63)), fun k => ?_, fun N => ?_⟩
        · rw [tb_or, tb_bit (by omega), ha k]
          by_cases q : k = i
          · subst q; simp [h]
          · rw [dec_succ k i q]; simp [q]
        · simp only [fBoard_cellsInFields_L4, e1, if_false, o_rd_s hi (show 42 < 2 ^ 31 by decide), Option.bind_some, h, fX_bit_s hi, nI_1])
    (fun N a ha => by
      simp only [fBoard_cellsInFields_L4, show (42 : Int32) ≤ nI 42 from Int32.le_refl _, if_true])
  refine ⟨a, ?_, ha⟩
  unfold fBoard_cellsInFields
  rw [show (0 : Int32) = nI 0 from rfl, e]
  rfl
