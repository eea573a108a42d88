/-! THE MATHEMATICS: the digest's small loops. Own text. -/
section CDg
variable {F L i : Nat} {nu inF fi la s : Nat → Int32}
def mx (x h : Int64) : Int64 := ((31 : Int64) * h) + x
theorem add_s (x h : Int64) : fHash_add x h = some (mx x h) := rfl
theorem mix_s (x h : Int64) : fM_mix x h = some (mx x h) := rfl
theorem text_s {n : Nat} (hn : n ≤ 60) {codes buf : Nat → Int32} (h : ∀ k, k < n → codes k = buf k) : ∀ m k N (v : Int64), k + m = n → m < N →
    ∃ v', fX_digest_L116 F (nI n) codes N (nI k) v = some (nI n, v') ∧ fM_digest_L422 F (nI n) buf N (nI k) v = some (nI n, v')
  | 0, k, N, v, hk, hN => by
    obtain ⟨M, rfl⟩ : ∃ M, N = M + 1 := ⟨N - 1, by omega⟩
    rw [show k = n by omega, fX_digest_L116, fM_digest_L422]
    unfold fInputText_length
    rw [Option.bind_some, if_pos (Int32.le_refl _), if_pos (Int32.le_refl _)]
    exact ⟨v, rfl, rfl⟩
  | m + 1, k, N, v, hk, hN => by
    obtain ⟨M, rfl⟩ : ∃ M, N = M + 1 := ⟨N - 1, by omega⟩
    have e2 : nI k + (1 : Int32) = nI (k + 1) := nI_add k 1
    have e3 : ¬ nI n ≤ nI k := by
      intro c
      have := (nI_leI (by omega) (by omega)).mp c
      omega
    obtain ⟨v', h1, h2⟩ := text_s hn h m (k + 1) M (mx (buf k).toInt64 v) (by omega) (by omega)
    refine ⟨v', ?_, ?_⟩
    · rw [fX_digest_L116]
      unfold fInputText_length
      rw [Option.bind_some, if_neg e3, codeAt_s (by omega), Option.bind_some, add_s, Option.bind_some, e2, h k (by omega)]
      exact h1
    · rw [fM_digest_L422, if_neg e3, o_rd_s (by omega) (by decide), Option.bind_some, mix_s, Option.bind_some, e2]
      exact h2
theorem first_s {f1 k1 co wi : Nat → Int32} {n : Int32} (hn : ¬ n ≤ 0) (hc : ∀ k, k < 42 → f1 k = co k) (hw : ∀ k, k < 42 → fBoard_sizeOfField (nI k) f1 k1 = some (wi k)) : ∀ m k N (v : Int64), k + m = 42 → m < N →
    ∃ v', fX_addWays_L51 F f1 k1 N (nI k) v = some (nI 42, v') ∧ fM_digest_L312 F n co wi N (nI k) v = some (nI 42, v')
  | 0, k, N, v, hk, hN => by
    obtain ⟨M, rfl⟩ : ∃ M, N = M + 1 := ⟨N - 1, by omega⟩
    rw [show k = 42 by omega, fX_addWays_L51, fM_digest_L312, if_pos le42, if_pos le42]
    exact ⟨v, rfl, rfl⟩
  | m + 1, k, N, v, hk, hN => by
    obtain ⟨M, rfl⟩ : ∃ M, N = M + 1 := ⟨N - 1, by omega⟩
    have hk2 : k < 42 := by omega
    have e2 : nI k + (1 : Int32) = nI (k + 1) := nI_add k 1
    obtain ⟨v', h1, h2⟩ := first_s hn hc hw m (k + 1) M (mx (co k).toInt64 (mx (wi k).toInt64 v)) (by omega) (by omega)
    refine ⟨v', ?_, ?_⟩
    · rw [fX_addWays_L51, if_neg (ge42 hk2), hw k hk2, Option.bind_some, add_s, Option.bind_some, firstOfField_s hk2, Option.bind_some, add_s, Option.bind_some, e2, hc k hk2]
      exact h1
    · rw [fM_digest_L312, if_neg (ge42 hk2), if_neg hn, o_rd_s hk2 (by decide), Option.bind_some, mix_s, Option.bind_some, o_rd_s hk2 (by decide), Option.bind_some, mix_s, Option.bind_some, e2]
      exact h2
theorem snap_s {filled kept : Nat → Int32} (hF : 2 < F) (hf : ∀ j, j < 2 → (filled j = 0 ∨ filled j = 1) ∧ kept j = filled j) (v : Int64) :
    fX_digest_L71 F filled F (0 : Int32) v = some (nI 2, mx (filled 1).toInt64 (mx (filled 0).toInt64 v)) ∧ ∀ j, j < 2 → (if kept j = (0 : Int32) then some (0 : Int64) else some (1 : Int64) : Option Int64) = some (filled j).toInt64 := by
  have hh : ∀ j, j < 2 → fHistory_hasSnapshot (nI j) filled = some (filled j) := fun j hj => by
    unfold fHistory_hasSnapshot
    rw [if_neg (nI_pos (by omega)), if_neg (show ¬ (2 : Int32) ≤ nI j from nI_ge (b := 2) hj (by decide)), o_rd_s hj (by decide), Option.bind_some]
    rcases (hf j hj).1 with e | e
    · rw [e]; rfl
    · rw [e]; rfl
  have ht : ∀ x : Int32, (x = 0 ∨ x = 1) → (if x = (0 : Int32) then some (0 : Int64) else some (1 : Int64)) = some x.toInt64 := fun x hx => by
    rcases hx with rfl | rfl
    · rfl
    · rfl
  obtain ⟨M, rfl⟩ : ∃ M, F = M + 3 := ⟨F - 3, by omega⟩
  refine ⟨?_, fun j hj => by rw [(hf j hj).2]; exact ht _ (hf j hj).1⟩
  rw [fX_digest_L71, if_neg (show ¬ (2 : Int32) ≤ 0 by decide), show (0 : Int32) = nI 0 from rfl, hh 0 (by decide), Option.bind_some, show nI 0 = (0 : Int32) from rfl, ht _ (hf 0 (by decide)).1, Option.bind_some, add_s, Option.bind_some, show (0 : Int32) + 1 = nI 1 from rfl]
  rw [fX_digest_L71, if_neg (show ¬ (2 : Int32) ≤ nI 1 by decide), hh 1 (by decide), Option.bind_some, ht _ (hf 1 (by decide)).1, Option.bind_some, add_s, Option.bind_some, show nI 1 + (1 : Int32) = nI 2 from rfl]
  rw [fX_digest_L71, if_pos (show (2 : Int32) ≤ nI 2 by decide)]
end CDg
