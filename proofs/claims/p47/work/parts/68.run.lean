/-! p47, THE MATHEMATICS: the rounds of the class alone, with what they keep. Own text. -/
section XR
variable {F : Nat} {nu inF : Nat → Int32} {a : Int32 × (Nat → Int32) × (Nat → Int32) × (Nat → Int64) × (Nat → Int32)}
theorem xrounds (hF : 588 < F) (ha : XI nu (XL nu inF) a) (P : Nat → (Nat × Nat → Bool) → Prop) (hP : ∀ R Lf, P R Lf → mor nu (XL nu inF) Lf (XL nu inF) = true → P (R + 1) (nxt nu (XL nu inF) Lf)) : ∀ (n : Nat) (Lf : Nat × Nat → Bool) (R : Nat), (XL nu inF).countP Lf = n → R + n ≤ 588 → P R Lf → ∀ (left : Nat → Int32), LX (XL nu inF) Lf left → ∀ (s0 a0 : Nat → Int64) (N : Nat), n + 1 < N → ∃ (Lz : Nat × Nat → Bool) (Rz : Nat) (s1 a1 : Nat → Int64) (left1 : Nat → Int32), P Rz Lz ∧ mor nu (XL nu inF) Lz (XL nu inF) = false ∧ Rz ≤ 588 ∧ (∀ k, k < 42 → s1 k = cset (Sm nu (XL nu inF) Lz k)) ∧ LX (XL nu inF) Lz left1 ∧ fSteps_run_L74 F a.1 a.2.2.2.1 a.2.2.2.2 N s0 a0 left (nI R) = some (s1, a1, left1, nI Rz) := by
  intro n
  induction n using Nat.strongRecOn with
  | _ n ih =>
    intro Lf R hn hR hPR left hl s0 a0 N hN
    obtain ⟨M, rfl⟩ : ∃ M, N = M + 1 := ⟨N - 1, by omega⟩
    obtain ⟨s1, a1, left', p1, p2, p3⟩ := X_ruleOut hF ha hl s0 a0
    have e1 : ¬ (588 : Int32) < nI R := nI_nlt (a := 588) (by omega) (by decide)
    cases hmor : mor nu (XL nu inF) Lf (XL nu inF) with
    | true =>
      have hlt := nxt_le (nu := nu) (x := XL nu inF) (Lf := Lf) (XL nu inF)
      rw [hmor, if_pos rfl] at hlt
      rw [hmor, bI_t] at p3
      obtain ⟨Lz, Rz, t1, b1, left1, q0, q1, q2, q3, q4, q7⟩ := ih _ (by omega : (XL nu inF).countP (nxt nu (XL nu inF) Lf) < n) (nxt nu (XL nu inF) Lf) (R + 1) rfl (by omega) (hP R Lf hPR hmor) left' p2 s1 a1 M (by omega)
      refine ⟨Lz, Rz, t1, b1, left1, q0, q1, q2, q3, q4, ?_⟩
      simp only [fSteps_run_L74, e1, if_false, p3, Option.bind_some, show ¬ (1 : Int32) = 0 by decide, nI_1]
      exact q7
    | false =>
      rw [hmor, bI_f] at p3
      refine ⟨Lf, R, s1, a1, left', hPR, hmor, by omega, p1, ⟨fun i r hr => ?_, p2.2⟩, ?_⟩
      · exact (p2.1 i r hr).trans (congrArg bI (nxt_of hmor (List.mem_of_getElem? hr)))
      · simp only [fSteps_run_L74, e1, if_false, p3, Option.bind_some, if_true]
/-- what is left behind each round -/
noncomputable def rit (nu inF : Nat → Int32) : Nat → Nat × Nat → Bool
  | 0 => fun _ => true
  | n + 1 => nxt nu (XL nu inF) (rit nu inF n)
/-- R is the number of the rounds -/
def RT (nu inF : Nat → Int32) (R : Nat) : Prop := (∀ j, j < R → mor nu (XL nu inF) (rit nu inF j) (XL nu inF) = true) ∧ mor nu (XL nu inF) (rit nu inF R) (XL nu inF) = false
theorem RT_one {R R' : Nat} (h : RT nu inF R) (h' : RT nu inF R') : R = R' := by
  rcases Nat.lt_trichotomy R R' with c | c | c
  · have := h'.1 R c
    rw [h.2] at this
    cases this
  · exact c
  · have := h.1 R' c
    rw [h'.2] at this
    cases this
theorem rit_KP : ∀ n, KP nu inF (rit nu inF n)
  | 0 => KP_all
  | n + 1 => KP_nxt (rit_KP n)
theorem rit_0 : (XL nu inF).countP (rit nu inF 0) = (XL nu inF).length := by
  rw [List.countP_eq_length]
  exact fun _ _ => rfl
theorem RT_zero {R : Nat} (h : RT nu inF R) : R = 0 ↔ (XL nu inF).countP (rit nu inF R) = (XL nu inF).length := by
  constructor
  · intro e
    rw [e]
    exact rit_0
  · intro e
    cases R with
    | zero => rfl
    | succ m =>
      have hlt := nxt_le (nu := nu) (x := XL nu inF) (Lf := rit nu inF m) (XL nu inF)
      rw [h.1 m (Nat.lt_succ_self m), if_pos rfl] at hlt
      have hle : (XL nu inF).countP (rit nu inF m) ≤ (XL nu inF).length := List.countP_le_length
      have e2 : (XL nu inF).countP (nxt nu (XL nu inF) (rit nu inF m)) = (XL nu inF).length := e
      omega
theorem xrun_s {F : Nat} (hF : 1200 < F) {ef el : Nat → Int32} {ec : Nat → Int64} (hE : EV ef el ec) (nu inF : Nat → Int32) (c0 : Int32) (f0 l0 : Nat → Int32) (e0 : Nat → Int64) (o0 : Nat → Int32) (op0 nm0 : Int64) (lf0 : Nat → Int32) (rd0 : Int32) (s0 a0 : Nat → Int64) : ∃ (a : Int32 × (Nat → Int32) × (Nat → Int32) × (Nat → Int64) × (Nat → Int32)) (R : Nat) (s1 a1 : Nat → Int64) (left1 : Nat → Int32), XI nu (XL nu inF) a ∧ RT nu inF R ∧ R ≤ 588 ∧ (∀ k, k < 42 → s1 k = cset (Sm nu (XL nu inF) (rit nu inF R) k)) ∧ LX (XL nu inF) (rit nu inF R) left1 ∧ fSteps_run F inF nu c0 ec ef f0 el l0 e0 o0 op0 nm0 lf0 rd0 s0 a0 = some (a.1, a.2.1, a.2.2.1, a.2.2.2.1, a.2.2.2.2, cset (fun k => !decide (inF k ≠ 0)), cset (fun k => decide (nu k ≠ 0) && !decide (inF k ≠ 0)), left1, nI R, s1, a1) := by
  obtain ⟨a, ha, ea⟩ := find_s (F := F) (by omega) hE nu inF c0 f0 l0 e0 o0
  have hlX := XL_len nu inF
  have ha1 := ha.1
  obtain ⟨left, hl, e1⟩ := lp0 (F := F) 588 (by omega) (fun N i (t : Nat → Int32) => fSteps_run_L34 F (nI (XL nu inF).length) N (nI i) t) (fun t => (nI 588, t)) (fun i t => ∀ j, j < i → t j = if j < (XL nu inF).length then 1 else 0) (a := lf0) (fun j hj => by omega)
    (fun i t hi ht => by
      refine ⟨upd t i (if i < (XL nu inF).length then 1 else 0), fun j hj => ?_, fun N => ?_⟩
      · by_cases q : j = i
        · subst q; exact upd_at _ _ _
        · rw [upd_off _ _ q]; exact ht j (by omega)
      · by_cases q : i < (XL nu inF).length
        · have e2 : ¬ nI (XL nu inF).length ≤ nI i := nI_ge q (by omega)
          simp only [fSteps_run_L34, fRectangles_size, ge588 hi, if_false, Option.bind_some, e2, q, if_true, o_wrZ_s1 hi (show 588 < 2 ^ 31 by decide), nI_1]
        · have e2 : nI (XL nu inF).length ≤ nI i := nI_le (by omega) (by omega)
          simp only [fSteps_run_L34, fRectangles_size, ge588 hi, if_false, Option.bind_some, e2, q, if_true, o_wrZ_s0 hi (show 588 < 2 ^ 31 by decide), nI_1])
    (fun N t ht => by simp only [fSteps_run_L34, show (588 : Int32) ≤ nI 588 from Int32.le_refl _, if_true])
  have hLX : LX (XL nu inF) (fun _ => true) left := ⟨fun i r hr => by
    have := ts_lt hr
    rw [hl i (by omega), if_pos this]; rfl, fun i h1 h2 => by rw [hl i h2, if_neg (by omega)]⟩
  have hcp : (XL nu inF).countP (fun _ => true) = (XL nu inF).length := by
    rw [List.countP_eq_length]
    exact fun _ _ => rfl
  obtain ⟨Lz, R, s1, a1, left1, ⟨k1, k2⟩, q1, q2, q3, q4, q7⟩ := xrounds (F := F) (by omega) ha (fun R Lf => Lf = rit nu inF R ∧ ∀ j, j < R → mor nu (XL nu inF) (rit nu inF j) (XL nu inF) = true)
    (fun R Lf h hm => ⟨by rw [h.1]; rfl, fun j hj => by
      by_cases q : j = R
      · rw [q, ← h.1]; exact hm
      · exact h.2 j (by omega)⟩) _ (fun _ => true) 0 hcp (by omega) ⟨rfl, fun j hj => absurd hj (Nat.not_lt_zero j)⟩ left hLX s0 a0 F (by omega)
  subst k1
  refine ⟨a, R, s1, a1, left1, ha, ⟨k2, q1⟩, q2, q3, q4, ?_⟩
  · unfold fSteps_run
    try rw [nI_0] at e1
    try rw [nI_0] at q7
    rw [ea, Option.bind_some, cellsInFields_e (by omega), Option.bind_some, openNumbers_e (by omega), Option.bind_some, ha1, e1, Option.bind_some, ← ha1, q7, Option.bind_some]
    have e9 : ((4398046511103 : Int64) &&& (Tk inF ^^^ (-1 : Int64))) = cset (fun k => !decide (inF k ≠ 0)) := by
      show ALL &&& _ = _
      rw [ALL_cs, and_not]
      exact cset_cong (fun k hk => by unfold Tk; rw [tb_cset' _ hk, Bool.true_and])
    rw [e9]
end XR
