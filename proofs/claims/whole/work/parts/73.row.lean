/-! THE MATHEMATICS: a row is written. Own text. -/
section CR
variable {F L i : Nat} {xs nu inF fi la s : Nat → Int32} {arr : Nat → Int64} {th : Int32}
def mval (c : Int32) : Option Int32 := if ¬ c = (46 : Int32) then if c < (97 : Int32) then some (c - (48 : Int32)) else some ((c - (97 : Int32)) + (10 : Int32)) else some (0 : Int32)
theorem mval_s {c : Int32} {v : Nat} (hv : v ≤ 20) (h : fInputText_numberOf c = some (nI v)) : mval c = some (nI v) := by
  have hn : ¬ (some (-1 : Int32) = some (nI v)) := by
    intro e
    have e1 := congrArg Int32.toInt (Option.some.inj e)
    rw [nI_toInt (by omega)] at e1
    have e2 : (-1 : Int32).toInt = -1 := by decide
    omega
  rw [← h]
  rw [← h] at hn
  unfold mval
  revert hn
  unfold fInputText_numberOf
  by_cases h1 : c = 46
  · rw [if_neg (not_not_intro h1), if_neg (not_not_intro h1)]
    exact fun _ => rfl
  · rw [if_pos h1, if_pos h1]
    by_cases h2 : c < 49
    · have h3 : c < 97 := by
        have t49 : (49 : Int32).toInt = 49 := by decide
        have t97 : (97 : Int32).toInt = 97 := by decide
        rw [Int32.lt_iff_toInt_lt] at h2 ⊢
        omega
      rw [if_pos h2, if_pos h3]
      exact fun e => absurd rfl e
    · rw [if_neg h2]
      by_cases h4 : (57 : Int32) < c
      · rw [if_pos h4]
        by_cases h3 : c < 97
        · rw [if_pos h3]
          exact fun e => absurd rfl e
        · rw [if_neg h3, if_neg h3]
          by_cases h5 : (107 : Int32) < c
          · rw [if_pos h5]
            exact fun e => absurd rfl e
          · rw [if_neg h5]
            exact fun _ => rfl
      · have h3 : c < 97 := by
          have t57 : (57 : Int32).toInt = 57 := by decide
          have t97 : (97 : Int32).toInt = 97 := by decide
          rw [Int32.lt_iff_toInt_lt] at h4 ⊢
          omega
        rw [if_neg h4, if_pos h3]
        exact fun _ => rfl
theorem cellAt_s (r k : Nat) : fX_cellAt (nI r) (nI k) = some (nI (7 * r + k)) := by
  unfold fX_cellAt
  rw [show (7 : Int32) = nI 7 from rfl, nI_mul, nI_add, Nat.mul_comm]
theorem ge7 {k : Nat} (h : k < 7) : ¬ (7 : Int32) ≤ nI k := by
  intro c
  rw [Int32.le_iff_toInt_le] at c
  have e1 := nI_toInt (n := k) (by omega)
  have e2 := nI_toInt (n := 7) (by decide)
  have e3 : (7 : Int32) = nI 7 := rfl
  rw [e3] at c
  omega
theorem rowHasX (h : BR nu inF fi la s 0) {r : Nat} (hr : r < 6) : ∀ m k N, k + m = 7 → m < N →
    ((∀ j, k ≤ j → j < 7 → inF (7 * r + j) = 0) ∧ fX_rowHasField_L2 F (nI r) inF N (nI k) = some 0) ∨ ((∃ j, k ≤ j ∧ j < 7 ∧ inF (7 * r + j) = 1) ∧ fX_rowHasField_L2 F (nI r) inF N (nI k) = some 1)
  | 0, k, N, hk, hN => by
    obtain ⟨M, rfl⟩ : ∃ M, N = M + 1 := ⟨N - 1, by omega⟩
    rw [show k = 7 by omega]
    exact Or.inl ⟨fun j h1 h2 => by omega, rfl⟩
  | m + 1, k, N, hk, hN => by
    obtain ⟨M, rfl⟩ : ∃ M, N = M + 1 := ⟨N - 1, by omega⟩
    have hc : 7 * r + k < 42 := by omega
    rw [fX_rowHasField_L2, if_neg (ge7 (by omega)), cellAt_s, Option.bind_some, hasField_s hc (h.inF hc), Option.bind_some]
    rcases h.inF hc with g | g
    · rw [if_pos g, show nI k + (1 : Int32) = nI (k + 1) from nI_add k 1]
      rcases rowHasX h hr m (k + 1) M (by omega) (by omega) with ⟨h1, h2⟩ | ⟨⟨j, j1, j2, j3⟩, h2⟩
      · refine Or.inl ⟨fun j a b => ?_, h2⟩
        by_cases c : j = k
        · rw [c]; exact g
        · exact h1 j (by omega) b
      · exact Or.inr ⟨⟨j, by omega, j2, j3⟩, h2⟩
    · rw [if_neg (by rw [g]; decide)]
      exact Or.inr ⟨⟨k, by omega, by omega, g⟩, rfl⟩
theorem rowHasM (h : BR nu inF fi la s 0) {r : Nat} (hr : r < 6) : ∀ m k N (t : Int32), k + m = 7 → m < N →
    ∃ z t', fM_writeRow_L51 F (nI r) s N (nI (7 * r + k)) t = some (z, t') ∧ ((∀ j, k ≤ j → j < 7 → inF (7 * r + j) = 0) → t' = t) ∧ ((∃ j, k ≤ j ∧ j < 7 ∧ inF (7 * r + j) = 1) → t' = 3) ∧ (t = 3 → t' = 3)
  | 0, k, N, t, hk, hN => by
    obtain ⟨M, rfl⟩ : ∃ M, N = M + 1 := ⟨N - 1, by omega⟩
    rw [show k = 7 by omega, fM_writeRow_L51, if_pos]
    · exact ⟨_, _, rfl, fun _ => rfl, fun ⟨j, h1, h2, _⟩ => by omega, fun e => e⟩
    · rw [show (7 : Int32) = nI 7 from rfl, nI_mul, nI_add]
      exact Int32.le_refl _
  | m + 1, k, N, t, hk, hN => by
    obtain ⟨M, rfl⟩ : ∃ M, N = M + 1 := ⟨N - 1, by omega⟩
    have hc : 7 * r + k < 42 := by omega
    have e1 : ¬ ((7 : Int32) * nI r) + (7 : Int32) ≤ nI (7 * r + k) := by
      rw [show (7 : Int32) = nI 7 from rfl, nI_mul, nI_add]
      intro c
      rw [Int32.le_iff_toInt_le, nI_toInt (by omega), nI_toInt (by omega)] at c
      omega
    have e2 : (42 : Int32) + nI (7 * r + k) = nI (42 + (7 * r + k)) := nI_add 42 _
    have e3 : nI (7 * r + k) + (1 : Int32) = nI (7 * r + (k + 1)) := nI_add _ 1
    rw [fM_writeRow_L51, if_neg e1, e2, o_rd_s (show 42 + (7 * r + k) < 84 by omega) (by decide), Option.bind_some, e3]
    rcases h.inF hc with g | g
    · have es : s (42 + (7 * r + k)) ≤ 0 := by
        rw [show s (42 + (7 * r + k)) = 0 from (by rw [h.s0 hc]; exact g)]
        decide
      rw [if_pos es]
      obtain ⟨z, t', h1, h2, h3, h4⟩ := rowHasM h hr m (k + 1) M t (by omega) (by omega)
      refine ⟨z, t', h1, fun q => h2 (fun j a b => q j (by omega) b), fun ⟨j, a, b, c⟩ => h3 ⟨j, ?_, b, c⟩, h4⟩
      by_cases e : j = k
      · rw [e, g] at c
        exact absurd c (by decide)
      · omega
    · have es : ¬ s (42 + (7 * r + k)) ≤ 0 := by
        have := h.fld hc
        rw [Nat.zero_add] at this
        rw [← this, g]
        decide
      rw [if_neg es]
      obtain ⟨z, t', h1, h2, h3, h4⟩ := rowHasM h hr m (k + 1) M 3 (by omega) (by omega)
      refine ⟨z, t', h1, fun q => ?_, fun _ => h4 rfl, fun _ => h4 rfl⟩
      have := q k (by omega) (by omega)
      rw [g] at this
      exact absurd this (by decide)
theorem writes_s {codes buf : Nat → Int32} (hc : ∀ k, k < 7 → codes k = buf k) (hv : ∀ k, k < 7 → ∃ v, v ≤ 20 ∧ fInputText_numberOf (codes k) = some (nI v)) {r : Nat} (hr : r < 6) : ∀ m k N (c : Int32) (nu s : Nat → Int32), k + m = 7 → m < N → BR nu inF fi la s 0 →
    ∃ c' nu' s', fX_writeRow_L73 F (nI r) codes N c (nI k) nu = some (c', nI 7, nu') ∧ fM_writeRow_L109 F (nI r) buf N c (nI k) s = some (c', nI 7, s') ∧ BR nu' inF fi la s' 0
  | 0, k, N, c, nu, s, hk, hN, h => by
    obtain ⟨M, rfl⟩ : ∃ M, N = M + 1 := ⟨N - 1, by omega⟩
    rw [show k = 7 by omega]
    exact ⟨c, nu, s, rfl, rfl, h⟩
  | m + 1, k, N, c, nu, s, hk, hN, h => by
    obtain ⟨M, rfl⟩ : ∃ M, N = M + 1 := ⟨N - 1, by omega⟩
    have hcc : 7 * r + k < 42 := by omega
    obtain ⟨v, v1, v2⟩ := hv k (by omega)
    have v3 := mval_s v1 v2
    rw [hc k (by omega)] at v3
    unfold mval at v3
    obtain ⟨c', nu', s', h1, h2, h3⟩ := writes_s hc hv hr m (k + 1) M (c + if nI v ≤ 0 then 0 else 1) (upd nu (7 * r + k) (nI v)) (upd s (7 * r + k) (nI v)) (by omega) (by omega) (h.write hcc v1)
    refine ⟨c', nu', s', ?_, ?_, h3⟩
    · rw [fX_writeRow_L73, if_neg (ge7 (by omega)), numberFor_s (by omega), v2, Option.bind_some, cellAt_s, Option.bind_some, setNumber_s hcc, Option.bind_some, show nI k + (1 : Int32) = nI (k + 1) from nI_add k 1, ← h1]
      by_cases z : nI v ≤ 0
      · rw [if_pos z, if_pos z]
        rfl
      · rw [if_neg z, if_neg z]
        rfl
    · rw [fM_writeRow_L109, if_neg (ge7 (by omega)), o_rd_s (by omega) (by decide), Option.bind_some, v3, Option.bind_some, m7, o_wrI_s (show 7 * r + k < 84 by omega) (by decide), Option.bind_some, show nI k + (1 : Int32) = nI (k + 1) from nI_add k 1, ← h2]
      by_cases z : nI v ≤ 0
      · rw [if_pos z, if_pos z]
        rfl
      · rw [if_neg z, if_neg z]
        rfl
end CR
