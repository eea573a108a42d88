/-! p47, THE MATHEMATICS: the law's check of what is possible. Own text. -/
theorem countP_sm {α : Type} (p : α → Bool) : ∀ l : List α, l.countP p = sm l (fun r => if p r = true then 1 else 0)
  | [] => rfl
  | x :: t => by
    rw [List.countP_cons, countP_sm p t, sm_cons, Nat.add_comm]
theorem fbsm_swap {α : Type} (f : Nat → α → Nat) (n : Nat) : ∀ l : List α, fb_sm (fun k => sm l (f k)) n = sm l (fun r => fb_sm (fun k => f k r) n)
  | [] => by
    have e : fb_sm (fun k => sm ([] : List α) (f k)) n = fb_sm (fun _ => 0) n := fb_sm_cong (fun k hk => rfl)
    rw [e, fb_sm_const, sm_nil, Nat.mul_zero]
  | x :: t => by
    rw [sm_cons, ← fbsm_swap f n t, ← fb_sm_add]
    exact fb_sm_cong (fun k hk => sm_cons x t (f k))
theorem sm_times {α : Type} (p : α → Bool) (v : Nat) : ∀ l : List α, l.countP p * v = sm l (fun r => if p r = true then v else 0)
  | [] => by rw [List.countP_nil, Nat.zero_mul, sm_nil]
  | x :: t => by
    rw [List.countP_cons, sm_cons, ← sm_times p v t, Nat.add_mul]
    by_cases q : p x = true
    · rw [if_pos q, if_pos q, Nat.one_mul, Nat.add_comm]
    · rw [if_neg q, if_neg q, Nat.zero_mul, Nat.zero_add, Nat.add_zero]
theorem at_own {o : Nat} (ho : o < 42) (v : Nat → Nat) : fb_sm (fun k => if decide (o = k) = true then v k else 0) 42 = v o := by
  have e : fb_sm (fun k => if decide (o = k) = true then v k else 0) 42 = fb_sm (fun k => if k = o then v o else 0) 42 := fb_sm_cong (fun k hk => by
    by_cases q : k = o
    · rw [if_pos q, q, if_pos (decide_eq_true rfl)]
    · rw [if_neg q, if_neg (fun c => q (of_decide_eq_true c).symm)])
  rw [e, fb_sm_at (v o) ho]
theorem ct_or_le (p q : Nat → Bool) : ∀ n, fb_ct (fun k => p k || q k) n ≤ fb_ct p n + fb_ct q n
  | 0 => Nat.le_refl _
  | n + 1 => by
    have := ct_or_le p q n
    rw [fb_ct_succ, fb_ct_succ, fb_ct_succ]
    cases p n <;> cases q n <;> simp <;> omega
theorem ct_eq_le (o : Nat) : ∀ n, fb_ct (fun k => decide (o = k)) n ≤ if o < n then 1 else 0
  | 0 => Nat.zero_le _
  | n + 1 => by
    have h := ct_eq_le o n
    rw [fb_ct_succ]
    by_cases q : o = n
    · rw [if_neg (show ¬ o < n by omega)] at h
      rw [if_pos (decide_eq_true q), if_pos (show o < n + 1 by omega)]
      omega
    · rw [if_neg (fun c => q (of_decide_eq_true c)), Nat.add_zero]
      by_cases c : o < n
      · rw [if_pos c] at h; rw [if_pos (show o < n + 1 by omega)]; exact h
      · rw [if_neg c] at h; rw [if_neg (show ¬ o < n + 1 by omega)]; exact h
theorem any_ct {α : Type} (p : α → Bool) (ow : α → Nat) (n : Nat) : ∀ l : List α, fb_ct (fun j => l.any (fun r => p r && decide (ow r = j))) n ≤ l.countP p
  | [] => by
    have e : fb_ct (fun j => ([] : List α).any (fun r => p r && decide (ow r = j))) n = 0 := fb_ct_zero.mpr (fun k hk => rfl)
    rw [e]
    exact Nat.zero_le _
  | x :: t => by
    have h := any_ct p ow n t
    have e : fb_ct (fun j => (x :: t).any (fun r => p r && decide (ow r = j))) n = fb_ct (fun j => (p x && decide (ow x = j)) || t.any (fun r => p r && decide (ow r = j))) n := fb_ct_cong (fun j hj => List.any_cons)
    have h2 := ct_or_le (fun j => p x && decide (ow x = j)) (fun j => t.any (fun r => p r && decide (ow r = j))) n
    rw [e, List.countP_cons]
    cases hp : p x with
    | true =>
      rw [hp] at h2
      have h3 : fb_ct (fun j => true && decide (ow x = j)) n ≤ 1 := by
        have h4 := ct_eq_le (ow x) n
        have h5 : fb_ct (fun j => true && decide (ow x = j)) n = fb_ct (fun k => decide (ow x = k)) n := fb_ct_cong (fun j hj => Bool.true_and _)
        rw [h5]
        by_cases c : ow x < n
        · rw [if_pos c] at h4; exact h4
        · rw [if_neg c] at h4; omega
      rw [if_pos rfl]
      omega
    | false =>
      rw [hp] at h2
      have h3 : fb_ct (fun j => false && decide (ow x = j)) n = 0 := fb_ct_zero.mpr (fun j hj => Bool.false_and _)
      rw [if_neg (by decide), Nat.add_zero]
      omega
section LP
variable {F : Nat} {nu inF fi la : Nat → Int32} {D : List (Nat × Nat)} {ef el : Nat → Int32} {ec : Nat → Int64} {k R : Nat}
noncomputable def itl (nu inF : Nat → Int32) (R k : Nat) : Nat := (XL nu inF).countP (lof nu (rit nu inF R) k)
def clc (nu inF : Nat → Int32) (k : Nat) : Nat := fb_ct (clm nu (XL nu inF) k) 42
theorem itl_le : itl nu inF R k ≤ cfo nu inF k := by
  unfold itl cfo
  refine List.countP_mono_left (fun r hr h => ?_)
  unfold lof at h
  rw [Bool.and_eq_true] at h
  exact h.2
theorem clc_le : clc nu inF k ≤ cov nu inF k := by
  have h := any_ct (fun r => inb r.1 r.2 k) (own nu) 42 (XL nu inF)
  unfold clc cov clm
  exact h
theorem clc_0 : clc nu inF k = 0 ↔ cov nu inF k = 0 := by
  constructor
  · intro h
    unfold cov
    rw [List.countP_eq_zero]
    intro r hr hi
    have ho := own_lt hr
    have := (fb_ct_zero.mp h) (own nu r) ho
    have e : clm nu (XL nu inF) k (own nu r) = true := List.any_eq_true.mpr ⟨r, hr, by rw [hi, decide_eq_true rfl]; rfl⟩
    rw [e] at this
    cases this
  · intro h
    have := clc_le (nu := nu) (inF := inF) (k := k)
    omega
theorem cfo_sum : fb_sm (cfo nu inF) 42 = (XL nu inF).length := by
  have e : fb_sm (cfo nu inF) 42 = fb_sm (fun k => sm (XL nu inF) (fun r => if decide (own nu r = k) = true then 1 else 0)) 42 := fb_sm_cong (fun k hk => countP_sm _ _)
  rw [e, fbsm_swap, ← sm_one]
  exact sm_cong (fun r hr => at_own (own_lt hr) (fun _ => 1))
theorem itl_sum : fb_sm (itl nu inF R) 42 = (XL nu inF).countP (rit nu inF R) := by
  have e : fb_sm (itl nu inF R) 42 = fb_sm (fun k => sm (XL nu inF) (fun r => if lof nu (rit nu inF R) k r = true then 1 else 0)) 42 := fb_sm_cong (fun k hk => countP_sm _ _)
  rw [e, fbsm_swap, countP_sm]
  refine sm_cong (fun r hr => ?_)
  by_cases q : rit nu inF R r = true
  · have e2 : fb_sm (fun k => if lof nu (rit nu inF R) k r = true then 1 else 0) 42 = fb_sm (fun k => if decide (own nu r = k) = true then 1 else 0) 42 := fb_sm_cong (fun k hk => by
      unfold lof
      rw [q, Bool.true_and])
    rw [e2, if_pos q]
    exact at_own (own_lt hr) (fun _ => 1)
  · have e2 : fb_sm (fun k => if lof nu (rit nu inF R) k r = true then 1 else 0) 42 = fb_sm (fun _ => 0) 42 := fb_sm_cong (fun k hk => by
      unfold lof
      rw [ts_nt q, Bool.false_and, if_neg (by decide)])
    rw [e2, if_neg q, fb_sm_const, Nat.mul_zero]
theorem cov_sum2 : fb_sm (cov nu inF) 42 = sm (XL nu inF) sz := by
  have e : fb_sm (cov nu inF) 42 = fb_sm (fun k => sm (XL nu inF) (fun r => if inb r.1 r.2 k = true then 1 else 0)) 42 := fb_sm_cong (fun k hk => countP_sm _ _)
  rw [e, fbsm_swap]
  exact sm_cong (fun r hr => fb_sm_ind (inb r.1 r.2) 42)
theorem due_sum : fb_sm (fun k => cfo nu inF k * nv (nu k)) 42 = sm (XL nu inF) sz := by
  have e : fb_sm (fun k => cfo nu inF k * nv (nu k)) 42 = fb_sm (fun k => sm (XL nu inF) (fun r => if decide (own nu r = k) = true then nv (nu k) else 0)) 42 := fb_sm_cong (fun k hk => sm_times _ _ _)
  rw [e, fbsm_swap]
  refine sm_cong (fun r hr => ?_)
  have e3 := (OK_iff.mp (mem_XL.mp hr).2).2.2
  refine (at_own (own_lt hr) (fun k => nv (nu k))).trans ?_
  show nv (nu (own nu r)) = sz r
  rw [e3, nv_nI (by have := sz_le r; omega)]
theorem cfo_le : cfo nu inF k ≤ 588 := cnt588 nu inF _
theorem cov_le : cov nu inF k ≤ 588 := cnt588 nu inF _
theorem itl_le2 : itl nu inF R k ≤ 588 := cnt588 nu inF _
theorem clc_le2 : clc nu inF k ≤ 42 := fb_ct_le _ _
/-- a turn over the cells -/
theorem ap1 (hF : 1200 < F) (hE : EV ef el ec) (hn : NV nu) (hR : RT nu inF R) (hk : k < 42) (l1 l2 l3 l4 c0 : Int32) (f0 l0 : Nat → Int32) (s0 : Nat → Int64) (o0 : Nat → Int32) (op0 nm0 : Int64) (lf0 : Nat → Int32) (rd0 : Int32) (is0 ia0 : Nat → Int64) : ∃ z : Int32 × (Nat → Int32) × (Nat → Int32) × (Nat → Int64) × (Nat → Int32) × Int64 × Int64 × (Nat → Int32) × Int32 × (Nat → Int64) × (Nat → Int64), ∀ N, fPaddockFieldsLaw_arePossibleSo_L15 F inF nu ec ef el (N + 1) l1 l2 l3 l4 1 (nI k) c0 f0 l0 s0 o0 op0 nm0 lf0 rd0 is0 ia0 = fPaddockFieldsLaw_arePossibleSo_L15 F inF nu ec ef el N (l1 + nI (cfo nu inF k)) (l2 + nI (itl nu inF R k)) (l3 + nI (cov nu inF k)) (l4 + nI (cfo nu inF k) * nu k) 1 (nI k + 1) z.1 z.2.1 z.2.2.1 z.2.2.2.1 z.2.2.2.2.1 z.2.2.2.2.2.1 z.2.2.2.2.2.2.1 z.2.2.2.2.2.2.2.1 z.2.2.2.2.2.2.2.2.1 z.2.2.2.2.2.2.2.2.2.1 z.2.2.2.2.2.2.2.2.2.2 := by
  have e1 := ge42 hk
  obtain ⟨z1, a1⟩ := possibleFor_c (F := F) (by omega) hE hk (cck_s hk) c0 f0 l0 s0 o0 (nu := nu) (inF := inF)
  obtain ⟨z2, a2⟩ := leftFor_c hF hE hk (cck_s hk) hR z1.1 z1.2.1 z1.2.2.1 z1.2.2.2.1 z1.2.2.2.2 op0 nm0 lf0 rd0 is0 ia0
  obtain ⟨z3, a3⟩ := coveredBy_c (F := F) (by omega) hE hk (cck_s hk) z2.1 z2.2.1 z2.2.2.1 z2.2.2.2.1 z2.2.2.2.2.1 (nu := nu) (inF := inF)
  obtain ⟨z4, a4⟩ := claimedBy_c (F := F) (by omega) hE hk (cck_s hk) z3.1 z3.2.1 z3.2.2.1 z3.2.2.2.1 z3.2.2.2.2 (nu := nu) (inF := inF)
  have a5 : fX_numberAt (nI k / 7) (nI k - nI k / 7 * 7) nu = some (nu k) := numberAt_c hk (cck_s hk)
  have b1 : ¬ nI (cfo nu inF k) < nI ((XL nu inF).countP (lof nu (rit nu inF R) k)) := nI_nlt itl_le (by have := cfo_le (nu := nu) (inF := inF) (k := k); omega)
  have b2 : ¬ nI (cov nu inF k) < nI (fb_ct (clm nu (XL nu inF) k) 42) := nI_nlt clc_le (by have := cov_le (nu := nu) (inF := inF) (k := k); omega)
  have b3 : nI (fb_ct (clm nu (XL nu inF) k) 42) = (0 : Int32) ↔ nI (cov nu inF k) = (0 : Int32) := by
    have h1 := clc_le2 (nu := nu) (inF := inF) (k := k)
    have h2 := cov_le (nu := nu) (inF := inF) (k := k)
    constructor
    · intro c
      have : clc nu inF k = 0 := nI_inj (by unfold clc at h1 ⊢; omega) (by decide) (c.trans nI_0.symm)
      rw [clc_0.mp this, nI_0]
    · intro c
      have : cov nu inF k = 0 := nI_inj (by omega) (by decide) (c.trans nI_0.symm)
      have h3 : fb_ct (clm nu (XL nu inF) k) 42 = 0 := clc_0.mpr this
      rw [h3, nI_0]
  refine ⟨(z4.1, z4.2.1, z4.2.2.1, z4.2.2.2.1, z4.2.2.2.2, z2.2.2.2.2.2), fun N => ?_⟩
  by_cases c : nI (cov nu inF k) = (0 : Int32)
  · have c2 := b3.mpr c
    simp only [fPaddockFieldsLaw_arePossibleSo_L15, e1, if_false, a1, Option.bind_some, a2, a3, a4, a5, one_n0, b1, b2, c, c2, show ¬ (0 : Int32) < 0 by decide, not_true_eq_false, itl]
  · have c2 : ¬ nI (fb_ct (clm nu (XL nu inF) k) 42) = (0 : Int32) := fun e => c (b3.mp e)
    simp only [fPaddockFieldsLaw_arePossibleSo_L15, e1, if_false, a1, Option.bind_some, a2, a3, a4, a5, one_n0, b1, b2, c, c2, not_true_eq_false, not_false_eq_true, if_true, itl]
theorem aps_L (hF : 1200 < F) (hE : EV ef el ec) (hn : NV nu) (hR : RT nu inF R) (c0 : Int32) (f0 l0 : Nat → Int32) (s0 : Nat → Int64) (o0 : Nat → Int32) (op0 nm0 : Int64) (lf0 : Nat → Int32) (rd0 : Int32) (is0 ia0 : Nat → Int64) : ∃ z : Int32 × (Nat → Int32) × (Nat → Int32) × (Nat → Int64) × (Nat → Int32) × Int64 × Int64 × (Nat → Int32) × Int32 × (Nat → Int64) × (Nat → Int64), fPaddockFieldsLaw_arePossibleSo_L15 F inF nu ec ef el F 0 0 0 0 1 0 c0 f0 l0 s0 o0 op0 nm0 lf0 rd0 is0 ia0 = some (nI (XL nu inF).length, nI ((XL nu inF).countP (rit nu inF R)), nI (sm (XL nu inF) sz), nI (sm (XL nu inF) sz), 1, nI 42, z) := by
  obtain ⟨z, -, e⟩ := lp0 (F := F) 42 (by omega) (fun N i (a : Int32 × (Nat → Int32) × (Nat → Int32) × (Nat → Int64) × (Nat → Int32) × Int64 × Int64 × (Nat → Int32) × Int32 × (Nat → Int64) × (Nat → Int64)) => fPaddockFieldsLaw_arePossibleSo_L15 F inF nu ec ef el N (nI (fb_sm (cfo nu inF) i)) (nI (fb_sm (itl nu inF R) i)) (nI (fb_sm (cov nu inF) i)) (nI (fb_sm (fun k => cfo nu inF k * nv (nu k)) i)) 1 (nI i) a.1 a.2.1 a.2.2.1 a.2.2.2.1 a.2.2.2.2.1 a.2.2.2.2.2.1 a.2.2.2.2.2.2.1 a.2.2.2.2.2.2.2.1 a.2.2.2.2.2.2.2.2.1 a.2.2.2.2.2.2.2.2.2.1 a.2.2.2.2.2.2.2.2.2.2) (fun a => (nI (fb_sm (cfo nu inF) 42), nI (fb_sm (itl nu inF R) 42), nI (fb_sm (cov nu inF) 42), nI (fb_sm (fun k => cfo nu inF k * nv (nu k)) 42), (1 : Int32), nI 42, a)) (fun _ _ => True) (a := (c0, f0, l0, s0, o0, op0, nm0, lf0, rd0, is0, ia0)) trivial
    (fun i a hi _ => by
      obtain ⟨z, ez⟩ := ap1 hF hE hn hR hi (nI (fb_sm (cfo nu inF) i)) (nI (fb_sm (itl nu inF R) i)) (nI (fb_sm (cov nu inF) i)) (nI (fb_sm (fun k => cfo nu inF k * nv (nu k)) i)) a.1 a.2.1 a.2.2.1 a.2.2.2.1 a.2.2.2.2.1 a.2.2.2.2.2.1 a.2.2.2.2.2.2.1 a.2.2.2.2.2.2.2.1 a.2.2.2.2.2.2.2.2.1 a.2.2.2.2.2.2.2.2.2.1 a.2.2.2.2.2.2.2.2.2.2
      refine ⟨z, trivial, fun N => ?_⟩
      have p4 : nI (cfo nu inF i) * nu i = nI (cfo nu inF i * nv (nu i)) := by
        rw [← nI_mul, ← (hn.get hi).1]
      have st := ez N
      rw [p4, nI_add, nI_add, nI_add, nI_add, nI_1] at st
      exact st)
    (fun N a _ => by simp only [fPaddockFieldsLaw_arePossibleSo_L15, le42, if_true])
  refine ⟨z, ?_⟩
  rw [cfo_sum, itl_sum, cov_sum2, due_sum] at e
  exact e
end LP
