/-! THE MATHEMATICS: fields that stand otherwise in the first way, the case. Own text. -/
section CSt
variable {F L i : Nat} {xs nu inF fi la s : Nat → Int32} {arr : Nat → Int64} {th : Int32} {ef el : Nat → Int32} {ec : Nat → Int64}
theorem aside_L_s (hF : 42 < F) (s0 as0 : Nat → Int32) : ∃ t as, fM_strayFields_L7 F F (nI 0) s0 as0 = some (nI 42, t, as) ∧ (∀ k, k < 42 → t (42 + k) = 0 ∧ as k = s0 (42 + k)) ∧ ∀ k, (k < 42 ∨ 84 ≤ k) → t k = s0 k := by
  obtain ⟨b, hb, e⟩ := lp0 42 hF (fun N i (b : (Nat → Int32) × (Nat → Int32)) => fM_strayFields_L7 F N (nI i) b.1 b.2) (fun b => (nI 42, b.1, b.2)) (fun i b => (∀ k, k < i → b.1 (42 + k) = 0 ∧ b.2 k = s0 (42 + k)) ∧ (∀ k, i ≤ k → k < 42 → b.1 (42 + k) = s0 (42 + k)) ∧ ∀ k, (k < 42 ∨ 84 ≤ k) → b.1 k = s0 k) (a := (s0, as0))
    ⟨fun k hk => by omega, fun _ _ _ => rfl, fun _ _ => rfl⟩
    (fun i b hi hb => by
      have e1 := ge42 hi
      have e0 : (42 : Int32) + nI i = nI (42 + i) := nI_add 42 i
      refine ⟨(upd b.1 (42 + i) 0, upd b.2 i (b.1 (42 + i))), ⟨fun k hk => ?_, fun k hk hk2 => ?_, fun k hk => ?_⟩, fun N => ?_⟩
      · by_cases q : k = i
        · subst q
          exact ⟨upd_at _ _ _, (upd_at _ _ _).trans (hb.2.1 k (Nat.le_refl _) hi)⟩
        · exact ⟨(upd_off _ _ (by omega)).trans (hb.1 k (by omega)).1, (upd_off _ _ q).trans (hb.1 k (by omega)).2⟩
      · exact (upd_off _ _ (by omega)).trans (hb.2.1 k (by omega) hk2)
      · exact (upd_off _ _ (by omega)).trans (hb.2.2 k hk)
      · simp only [fM_strayFields_L7, e1, if_false, e0, o_rd_s (show 42 + i < 84 by omega) (show 84 < 2 ^ 31 by decide), o_wrI_s (show 42 + i < 84 by omega) (show 84 < 2 ^ 31 by decide), o_wrI_s hi (show 42 < 2 ^ 31 by decide), Option.bind_some, nI_1])
    (fun N b hb => by simp only [fM_strayFields_L7, le42, if_true])
  exact ⟨b.1, b.2, e, hb.1, hb.2.2⟩
theorem restore_L_s (hF : 42 < F) (as s0 : Nat → Int32) : ∃ t, fM_strayFields_L52 F as F (nI 0) s0 = some (nI 42, t) ∧ (∀ k, k < 42 → t (42 + k) = as k) ∧ ∀ k, (k < 42 ∨ 84 ≤ k) → t k = s0 k := by
  obtain ⟨b, hb, e⟩ := lp0 42 hF (fun N i (b : Nat → Int32) => fM_strayFields_L52 F as N (nI i) b) (fun b => (nI 42, b)) (fun i b => (∀ k, k < i → b (42 + k) = as k) ∧ ∀ k, (k < 42 ∨ 84 ≤ k) → b k = s0 k) (a := s0)
    ⟨fun k hk => by omega, fun _ _ => rfl⟩
    (fun i b hi hb => by
      have e1 := ge42 hi
      have e0 : (42 : Int32) + nI i = nI (42 + i) := nI_add 42 i
      refine ⟨upd b (42 + i) (as i), ⟨fun k hk => ?_, fun k hk => ?_⟩, fun N => ?_⟩
      · by_cases q : k = i
        · subst q; exact upd_at _ _ _
        · exact (upd_off _ _ (by omega)).trans (hb.1 k (by omega))
      · exact (upd_off _ _ (by omega)).trans (hb.2 k hk)
      · simp only [fM_strayFields_L52, e1, if_false, e0, o_rd_s hi (show 42 < 2 ^ 31 by decide), o_wrI_s (show 42 + i < 84 by omega) (show 84 < 2 ^ 31 by decide), Option.bind_some, nI_1])
    (fun N b hb => by simp only [fM_strayFields_L52, le42, if_true])
  exact ⟨b, e, hb⟩
theorem same_L {c : Nat} (co s : Nat → Int32) : ∀ m k N (v : Int32), k + m = 42 → m < N → (v = 0 ∨ v = 1) →
    ∃ v', fM_isSame_L4 F (nI c) s co N v (nI k) = some (v', nI 42) ∧ (v' = 0 ∨ v' = 1) ∧ (v' = 1 ↔ (v = 1 ∧ ∀ j, k ≤ j → j < 42 → (s (42 + j) = nI (c + 1) ↔ co j = nI c)))
  | 0, k, N, v, hk, hN, hv => by
    obtain ⟨M, rfl⟩ : ∃ M, N = M + 1 := ⟨N - 1, by omega⟩
    rw [show k = 42 by omega, fM_isSame_L4, if_pos le42]
    exact ⟨v, rfl, hv, fun e => ⟨e, fun j h1 h2 => by omega⟩, fun e => e.1⟩
  | m + 1, k, N, v, hk, hN, hv => by
    obtain ⟨M, rfl⟩ : ∃ M, N = M + 1 := ⟨N - 1, by omega⟩
    have hk2 : k < 42 := by omega
    have e0 : (42 : Int32) + nI k = nI (42 + k) := nI_add 42 k
    have e1 : nI c + (1 : Int32) = nI (c + 1) := nI_add c 1
    have e2 : nI k + (1 : Int32) = nI (k + 1) := nI_add k 1
    have st0 : fM_isSame_L4 F (nI c) s co (M + 1) 0 (nI k) = fM_isSame_L4 F (nI c) s co M 0 (nI (k + 1)) := by
      rw [fM_isSame_L4, if_neg (ge42 hk2), e2]
      rfl
    have st1 : fM_isSame_L4 F (nI c) s co (M + 1) 1 (nI k) = fM_isSame_L4 F (nI c) s co M (if ¬ (if ¬ s (42 + k) = nI (c + 1) then (0 : Int32) else 1) = (if ¬ co k = nI c then (0 : Int32) else 1) then 0 else 1) (nI (k + 1)) := by
      rw [fM_isSame_L4, if_neg (ge42 hk2), e0, e1, e2, o_rd_s (show 42 + k < 84 by omega) (by decide), o_rd_s hk2 (by decide), if_neg (show ¬ (1 : Int32) = 0 by decide)]
      by_cases c1 : s (42 + k) = nI (c + 1)
      · by_cases c2 : co k = nI c
        · simp only [Option.bind_some, c1, c2, not_true_eq_false, if_false, if_true]
        · simp only [Option.bind_some, c1, c2, not_true_eq_false, not_false_eq_true, if_false, if_true]
          rfl
      · by_cases c2 : co k = nI c
        · simp only [Option.bind_some, c1, c2, not_true_eq_false, not_false_eq_true, if_false, if_true]
          rfl
        · simp only [Option.bind_some, c1, c2, not_true_eq_false, not_false_eq_true, if_false, if_true]
    rcases hv with rfl | rfl
    · rw [st0]
      obtain ⟨v', h1, h2, h3⟩ := same_L (c := c) co s m (k + 1) M 0 (by omega) (by omega) (Or.inl rfl)
      refine ⟨v', h1, h2, fun e => ?_, fun e => absurd e.1 (by decide)⟩
      exact absurd (h3.mp e).1 (by decide)
    · rw [st1]
      by_cases c1 : s (42 + k) = nI (c + 1)
      · by_cases c2 : co k = nI c
        · obtain ⟨v', h1, h2, h3⟩ := same_L (c := c) co s m (k + 1) M 1 (by omega) (by omega) (Or.inr rfl)
          rw [if_neg (not_not_intro c1), if_neg (not_not_intro c2), if_neg (not_not_intro rfl)]
          refine ⟨v', h1, h2, fun e => ⟨rfl, fun j j1 j2 => ?_⟩, fun e => h3.mpr ⟨rfl, fun j j1 j2 => e.2 j (by omega) j2⟩⟩
          by_cases q : j = k
          · rw [q]; exact ⟨fun _ => c2, fun _ => c1⟩
          · exact (h3.mp e).2 j (by omega) j2
        · obtain ⟨v', h1, h2, h3⟩ := same_L (c := c) co s m (k + 1) M 0 (by omega) (by omega) (Or.inl rfl)
          rw [if_neg (not_not_intro c1), if_pos c2, if_pos (by decide)]
          refine ⟨v', h1, h2, fun e => absurd (h3.mp e).1 (by decide), fun e => absurd ((e.2 k (Nat.le_refl _) hk2).mp c1) c2⟩
      · by_cases c2 : co k = nI c
        · obtain ⟨v', h1, h2, h3⟩ := same_L (c := c) co s m (k + 1) M 0 (by omega) (by omega) (Or.inl rfl)
          rw [if_pos c1, if_neg (not_not_intro c2), if_pos (by decide)]
          refine ⟨v', h1, h2, fun e => absurd (h3.mp e).1 (by decide), fun e => absurd ((e.2 k (Nat.le_refl _) hk2).mpr c2) c1⟩
        · obtain ⟨v', h1, h2, h3⟩ := same_L (c := c) co s m (k + 1) M 1 (by omega) (by omega) (Or.inr rfl)
          rw [if_pos c1, if_pos c2, if_neg (not_not_intro rfl)]
          refine ⟨v', h1, h2, fun e => ⟨rfl, fun j j1 j2 => ?_⟩, fun e => h3.mpr ⟨rfl, fun j j1 j2 => e.2 j (by omega) j2⟩⟩
          by_cases q : j = k
          · rw [q]; exact ⟨fun e => absurd e c1, fun e => absurd e c2⟩
          · exact (h3.mp e).2 j (by omega) j2
theorem inb_IN {a b k : Nat} : inb a b k = true ↔ IN k a b := by
  unfold inb IN
  simp only [Bool.and_eq_true, decide_eq_true_eq]
end CSt
