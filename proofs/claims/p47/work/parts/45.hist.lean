/-! THE MATHEMATICS: saved boards against the reference's row of saved rows. Own text. -/
theorem copy_s {F : Nat} (hF : 42 < F) (nb ib fb lb : Nat → Int32) (hi : ∀ k, k < 42 → ib k = 0 ∨ ib k = 1) (dn di df dl : Nat → Int32) : ∃ n' i' f' l', fBoard_copy F nb dn ib di fb df lb dl = some (n', i', f', l') ∧ ∀ k, k < 42 → n' k = nb k ∧ i' k = ib k ∧ f' k = fb k ∧ l' k = lb k := by
  obtain ⟨a, ha, e⟩ := lp0 42 hF (fun N i (a : (Nat → Int32) × (Nat → Int32) × (Nat → Int32) × (Nat → Int32)) => fBoard_copy_L7 F nb ib fb lb N (nI i) a.1 a.2.1 a.2.2.1 a.2.2.2) (fun a => (nI 42, a.1, a.2.1, a.2.2.1, a.2.2.2)) (fun i a => ∀ k, k < i → a.1 k = nb k ∧ a.2.1 k = ib k ∧ a.2.2.1 k = fb k ∧ a.2.2.2 k = lb k) (a := (dn, di, df, dl))
    (fun k hk => by omega)
    (fun i a h ha => by
      have e1 := ge42 h
      refine ⟨(upd a.1 i (nb i), upd a.2.1 i (ib i), upd a.2.2.1 i (fb i), upd a.2.2.2 i (lb i)), fun k hk => ?_, fun N => ?_⟩
      · by_cases q : k = i
        · subst q
          exact ⟨upd_at _ _ _, upd_at _ _ _, upd_at _ _ _, upd_at _ _ _⟩
        · have := ha k (by omega)
          refine ⟨?_, ?_, ?_, ?_⟩
          · show upd a.1 i (nb i) k = _
            rw [upd_off _ _ q]; exact this.1
          · show upd a.2.1 i (ib i) k = _
            rw [upd_off _ _ q]; exact this.2.1
          · show upd a.2.2.1 i (fb i) k = _
            rw [upd_off _ _ q]; exact this.2.2.1
          · show upd a.2.2.2 i (lb i) k = _
            rw [upd_off _ _ q]; exact this.2.2.2
      · simp only [fBoard_copy_L7, e1, if_false, o_rd_s h (show 42 < 2 ^ 31 by decide), o_wrI_s h (show 42 < 2 ^ 31 by decide), o_wrZ_sb h (show 42 < 2 ^ 31 by decide) (hi i h), Option.bind_some, nI_1])
    (fun N a ha => by simp only [fBoard_copy_L7, le42, if_true])
  refine ⟨a.1, a.2.1, a.2.2.1, a.2.2.2, ?_, ha⟩
  unfold fBoard_copy
  try rw [nI_0] at e
  rw [e]
  rfl
theorem o_rdq_s {n i v : Nat} {f : Nat → Option Nat} (h : i < n) (hn : n < 2 ^ 31) (e : f i = some v) : o_rdq n f (nI i) = some v := by
  unfold o_rdq
  rw [if_neg (nI_in h hn), nI_clamp (by omega), e]
theorem o_wrq_s {n i v : Nat} {f : Nat → Option Nat} {as : List Nat} (h : i < n) (hn : n < 2 ^ 31) (hv : v ∈ as) : o_wrq as n f (nI i) v = some (va_up f i (some v)) := by
  unfold o_wrq
  rw [if_neg (nI_in h hn), if_pos hv, nI_clamp (by omega)]
theorem va_up_at {α : Type} (f : Nat → α) (k : Nat) (v : α) : va_up f k v k = v := by unfold va_up; rw [if_pos rfl]
theorem va_up_off {α : Type} (f : Nat → α) {k j : Nat} (v : α) (h : j ≠ k) : va_up f k v j = f j := by unfold va_up; rw [if_neg h]
theorem mem6 {a : Nat → Nat} {q : Nat} (h : q < 6) : a q ∈ [a 0, a 1, a 2, a 3, a 4, a 5] := by
  match q, h with
  | 0, _ => simp
  | 1, _ => simp
  | 2, _ => simp
  | 3, _ => simp
  | 4, _ => simp
  | 5, _ => simp
  | q + 6, h => omega
/-- the saved states: c of them; the j-th lies in the board p j -/
def HI (a : Nat → Nat) (count : Int32) (saved : Nat → Option Nat) (n i f l : Nat → Nat → Int32) (known : Int32) (before : Nat → Int32) : Prop :=
  ∃ c, c ≤ 6 ∧ count = nI c ∧ known = nI c ∧ ∃ p : Nat → Nat, (∀ j, j < 6 → p j < 6 ∧ saved j = some (a (p j))) ∧ (∀ j k, j < 6 → k < 6 → p j = p k → j = k) ∧ ∀ j, j < c → BR (n (p j)) (i (p j)) (f (p j)) (l (p j)) before (84 * j)
theorem dropOldest_s {F : Nat} (hF : 42 < F) {a : Nat → Nat} {saved : Nat → Option Nat} {p : Nat → Nat} (hp : ∀ j, j < 6 → p j < 6 ∧ saved j = some (a (p j))) (c : Int32) : ∃ saved', fHistory_dropOldest F (a 0) (a 1) (a 2) (a 3) (a 4) (a 5) saved c = some (saved', 5) ∧ (∀ j, j < 5 → saved' j = saved (j + 1)) ∧ saved' 5 = saved 0 := by
  obtain ⟨b, hb, e⟩ := lp 6 (fun N i (b : Nat → Option Nat) => fHistory_dropOldest_L9 F (a 0) (a 1) (a 2) (a 3) (a 4) (a 5) N (nI i) b) (fun b => (nI 6, b)) (fun i b => 1 ≤ i ∧ ∀ j, b j = if j + 1 < i then saved (j + 1) else saved j)
    (fun i b hi hb => by
      have e1 : ¬ (6 : Int32) ≤ nI i := nI_ge (b := 6) hi (by decide)
      obtain ⟨hi1, hb⟩ := hb
      have e2 : o_rdq 6 b (nI i) = some (a (p i)) := o_rdq_s hi (by decide) (by rw [hb i, if_neg (by omega)]; exact (hp i hi).2)
      have e3 : nI i - 1 = nI (i - 1) := by
        obtain ⟨m, rfl⟩ : ∃ m, i = m + 1 := ⟨i - 1, by omega⟩
        rw [nI_pred, Nat.add_sub_cancel]
      have e4 : o_wrq [a 0, a 1, a 2, a 3, a 4, a 5] 6 b (nI (i - 1)) (a (p i)) = some (va_up b (i - 1) (some (a (p i)))) := o_wrq_s (by omega) (by decide) (mem6 (hp i hi).1)
      refine ⟨va_up b (i - 1) (some (a (p i))), ⟨by omega, fun j => ?_⟩, fun N => ?_⟩
      · by_cases q : j = i - 1
        · subst q
          rw [va_up_at, if_pos (by omega), show i - 1 + 1 = i by omega]
          exact (hp i hi).2.symm
        · rw [va_up_off _ _ q, hb j]
          by_cases q2 : j + 1 < i
          · rw [if_pos q2, if_pos (by omega)]
          · rw [if_neg q2, if_neg (by omega)]
      · simp only [fHistory_dropOldest_L9, e1, if_false, e2, Option.bind_some, e3, e4, nI_1])
    (fun N b hb => by simp only [fHistory_dropOldest_L9, show (6 : Int32) ≤ nI 6 from Int32.le_refl _, if_true]) 5 1 F saved rfl (by omega) ⟨Nat.le_refl _, fun j => by
      by_cases q : j + 1 < 1
      · omega
      · rw [if_neg q]⟩
  obtain ⟨-, hb⟩ := hb
  refine ⟨va_up b 5 (some (a (p 0))), ?_, fun j hj => ?_, ?_⟩
  · unfold fHistory_dropOldest
    rw [show (0 : Int32) = nI 0 from rfl, o_rdq_s (by decide) (by decide) (hp 0 (by decide)).2, Option.bind_some, show (1 : Int32) = nI 1 from rfl, e, Option.bind_some, show (5 : Int32) = nI 5 from rfl, o_wrq_s (by decide) (by decide) (mem6 (hp 0 (by decide)).1)]
    rfl
  · rw [va_up_off _ _ (by omega), hb j, if_pos (by omega)]
  · rw [va_up_at]
    exact (hp 0 (by decide)).2.symm
/-- the reference's shift and copy -/
theorem msave_L11_s {F : Nat} (hF : 504 < F) (b0 : Nat → Int32) : ∃ b, fM_save_L11 F F (nI 0) b0 = some (nI 420, b) ∧ ∀ k, b k = if k < 420 then b0 (84 + k) else b0 k := by
  obtain ⟨b, hb, e⟩ := lp0 420 (by omega : 420 < F) (fun N i (b : Nat → Int32) => fM_save_L11 F N (nI i) b) (fun b => (nI 420, b)) (fun i b => ∀ k, b k = if k < i then b0 (84 + k) else b0 k) (a := b0)
    (fun k => by rw [if_neg (by omega)])
    (fun i b hi hb => by
      have e1 : ¬ (420 : Int32) ≤ nI i := nI_ge (b := 420) hi (by decide)
      have e0 : (84 : Int32) + nI i = nI (84 + i) := nI_add 84 i
      refine ⟨upd b i (b (84 + i)), fun k => ?_, fun N => ?_⟩
      · by_cases q : k = i
        · subst q
          rw [upd_at, hb, if_neg (by omega), if_pos (by omega)]
        · rw [upd_off _ _ q, hb k]
          by_cases q2 : k < i
          · rw [if_pos q2, if_pos (by omega)]
          · rw [if_neg q2, if_neg (by omega)]
      · simp only [fM_save_L11, e1, if_false, e0, o_rd_s (show 84 + i < 504 by omega) (show 504 < 2 ^ 31 by decide), o_wrI_s (show i < 504 by omega) (show 504 < 2 ^ 31 by decide), Option.bind_some, nI_1])
    (fun N b hb => by simp only [fM_save_L11, show (420 : Int32) ≤ nI 420 from Int32.le_refl _, if_true])
  exact ⟨b, e, hb⟩
theorem msave_L51_s {F : Nat} (hF : 504 < F) {c : Nat} (hc : c < 6) (s b0 : Nat → Int32) : ∃ b, fM_save_L51 F (nI c) s F (nI 0) b0 = some (nI 84, b) ∧ (∀ k, k < 84 → b (84 * c + k) = s k) ∧ ∀ k, (k < 84 * c ∨ 84 * c + 84 ≤ k) → b k = b0 k := by
  obtain ⟨b, hb, e⟩ := lp0 84 (by omega : 84 < F) (fun N i (b : Nat → Int32) => fM_save_L51 F (nI c) s N (nI i) b) (fun b => (nI 84, b)) (fun i b => (∀ k, k < i → b (84 * c + k) = s k) ∧ ∀ k, (k < 84 * c ∨ 84 * c + 84 ≤ k) → b k = b0 k) (a := b0)
    ⟨fun k hk => by omega, fun k _ => rfl⟩
    (fun i b hi hb => by
      have e1 : ¬ (84 : Int32) ≤ nI i := nI_ge (b := 84) hi (by decide)
      have e0 : ((84 : Int32) * nI c) + nI i = nI (84 * c + i) := by rw [show (84 : Int32) = nI 84 from rfl, nI_mul, nI_add]
      refine ⟨upd b (84 * c + i) (s i), ⟨fun k hk => ?_, fun k hk => ?_⟩, fun N => ?_⟩
      · by_cases q : k = i
        · subst q; rw [upd_at]
        · rw [upd_off _ _ (by omega)]; exact hb.1 k (by omega)
      · rw [upd_off _ _ (by omega)]; exact hb.2 k hk
      · simp only [fM_save_L51, e1, if_false, e0, o_rd_s hi (show 84 < 2 ^ 31 by decide), o_wrI_s (show 84 * c + i < 504 by omega) (show 504 < 2 ^ 31 by decide), Option.bind_some, nI_1])
    (fun N b hb => by simp only [fM_save_L51, show (84 : Int32) ≤ nI 84 from Int32.le_refl _, if_true])
  exact ⟨b, e, hb⟩
