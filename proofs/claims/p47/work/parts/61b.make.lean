/-! THE MATHEMATICS: numbers by a seed, to the end. Own text. -/
set_option maxRecDepth 20000 in
theorem largeX {F : Nat} (hF : 42 < F) {n : Nat} {A B : Nat → Nat} (h : QC n A B) {f l : Nat → Int32} (hX : HX n A B f l) {k : Nat} (hk : k ≤ n) (hs : ∀ i, i < k → sz (A i, B i) ≤ 6) (hl : k = n ∨ 6 < sz (A k, B k)) : fMaker_firstLarge F (nI n) f l = some (if k = n then -1 else nI k) := by
  have hn := h.le
  obtain ⟨z, hz, e⟩ := lsr n (fun N i (_ : Unit) => fMaker_firstLarge_L2 F (nI n) f l N (nI i)) (fun i _ => i ≤ k) (fun z => z = (if k = n then -1 else nI k))
    (fun i _ hi hik => by
      have e1 : ¬ nI n ≤ nI i := nI_ge hi (by omega)
      have e2 : ¬ (42 : Int32) ≤ nI i := ge42 (by omega)
      have e3 : o_rd 42 f (nI i) = some (nI (A i)) := by rw [o_rd_s (by omega) (by decide), (hX i hi).1]
      have e4 : o_rd 42 l (nI i) = some (nI (B i)) := by rw [o_rd_s (by omega) (by decide), (hX i hi).2]
      have e5 : fX_sizeOf (nI (A i)) (nI (B i)) = some (nI (sz (A i, B i))) := sizeOf_s (h.2.1 i hi)
      have hz := sz_le (A i, B i)
      by_cases q : i = k
      · subst q
        have h6 : 6 < sz (A i, B i) := hl.resolve_left (by omega)
        refine Or.inl ⟨nI i, by rw [if_neg (by omega)], fun N => ?_⟩
        have e6 : ¬ nI (sz (A i, B i)) ≤ (6 : Int32) := nI_ge (a := 6) h6 (by omega)
        rw [fMaker_firstLarge_L2, if_neg e1, if_neg e2, e3, Option.bind_some, e4, Option.bind_some, e5, Option.bind_some, if_neg e6]
      · have h6 := hs i (by omega)
        refine Or.inr ⟨(), by omega, fun N => ?_⟩
        have e6 : nI (sz (A i, B i)) ≤ (6 : Int32) := nI_le (b := 6) h6 (by decide)
        rw [fMaker_firstLarge_L2, if_neg e1, if_neg e2, e3, Option.bind_some, e4, Option.bind_some, e5, Option.bind_some, if_pos e6, nI_1])
    (fun N _ hnk => by
      have : k = n := by omega
      subst this
      exact ⟨-1, by rw [if_pos rfl], by simp only [fMaker_firstLarge_L2, Int32.le_refl, if_true]⟩) n 0 F () (Nat.zero_add _) (by omega) (Nat.zero_le _)
  unfold fMaker_firstLarge
  try rw [nI_0] at e
  rw [e, hz]
/-- both cut to the end, alike -/
theorem cuts_s {F : Nat} (hF : 1000 < F) : ∀ (P n k s : Nat) (A B : Nat → Nat), 84 - n - k ≤ P → QC n A B → k ≤ n → s < 2147483648 → (∀ i, i < k → sz (A i, B i) ≤ 6) → ∀ (f l c : Nat → Int32), HX n A B f l → HM n A B c → ∀ N M, 84 - n - k < M → 42 - n < N → ∃ (n' s' : Nat) (A' B' : Nat → Nat) (f' l' c' : Nat → Int32), QC n' A' B' ∧ s' < 2147483648 ∧ (∀ i, i < n' → sz (A' i, B' i) ≤ 6) ∧ HX n' A' B' f' l' ∧ HM n' A' B' c' ∧ fMaker_cutAll_L2 F N (nI (n - 1)) (nI n) f l (lN s) = some (lN s', l', f', nI n') ∧ fM_makes_L39 F M (nI n) (nI k) c (lN s) = some (nI n', nI n', c', lN s') := by
  intro P
  induction P with
  | zero =>
    intro n k s A B hP hQ hk hs hsm f l c hX hM N M hMM hN
    have := hQ.le
    have e1 : n = 42 := by omega
    have e2 : k = 42 := by omega
    obtain ⟨M', rfl⟩ : ∃ M', M = M' + 1 := ⟨M - 1, by omega⟩
    obtain ⟨N', rfl⟩ : ∃ N', N = N' + 1 := ⟨N - 1, by omega⟩
    subst e1
    subst e2
    refine ⟨42, s, A, B, f, l, c, hQ, hs, hsm, hX, hM, ?_, ?_⟩
    · have e3 := largeX (F := F) (by omega) hQ hX (Nat.le_refl 42) hsm (Or.inl rfl)
      rw [if_pos rfl] at e3
      simp only [fMaker_cutAll_L2, show ¬ (42 : Int32) ≤ nI (42 - 1) by decide, if_false, e3, Option.bind_some, show ¬ (0 : Int32) ≤ -1 by decide]
    · simp only [fM_makes_L39, Int32.le_refl, if_true]
  | succ P ih =>
    intro n k s A B hP hQ hk hs hsm f l c hX hM N M hMM hN
    have hn := hQ.le
    have hn0 := hQ.1
    obtain ⟨M', rfl⟩ : ∃ M', M = M' + 1 := ⟨M - 1, by omega⟩
    obtain ⟨N', rfl⟩ : ∃ N', N = N' + 1 := ⟨N - 1, by omega⟩
    have et : ¬ (42 : Int32) ≤ nI (n - 1) := ge42 (by omega)
    by_cases q : k = n
    · subst q
      refine ⟨k, s, A, B, f, l, c, hQ, hs, hsm, hX, hM, ?_, ?_⟩
      · have e3 := largeX (F := F) (by omega) hQ hX (Nat.le_refl k) hsm (Or.inl rfl)
        rw [if_pos rfl] at e3
        simp only [fMaker_cutAll_L2, et, if_false, e3, Option.bind_some, show ¬ (0 : Int32) ≤ -1 by decide]
      · simp only [fM_makes_L39, Int32.le_refl, if_true]
    · have hkn : k < n := by omega
      by_cases q6 : sz (A k, B k) ≤ 6
      · obtain ⟨n', s', A', B', f', l', c', g1, g2, g3, g4, g5, g6, g7⟩ := ih n (k + 1) s A B (by omega) hQ hkn hs (fun i hi => by
          by_cases e : i = k
          · subst e; exact q6
          · exact hsm i (by omega)) f l c hX hM (N' + 1) M' (by omega) hN
        refine ⟨n', s', A', B', f', l', c', g1, g2, g3, g4, g5, g6, ?_⟩
        have ea := area_s hM hkn hn (hQ.2.1 k hkn)
        have e0 : nI (sz (A k, B k)) ≤ (6 : Int32) := nI_le (b := 6) q6 (by decide)
        have en : ¬ nI n ≤ nI k := nI_ge hkn (by omega)
        simp only [fM_makes_L39, en, if_false, m4, ea, Option.bind_some, e0, if_true, nI_1]
        exact g7
      · have h6 : 6 < sz (A k, B k) := by omega
        have hr := hQ.room hkn h6
        obtain ⟨f1, l1, e1, hX1⟩ := cutX hQ hkn h6 hs hX
        obtain ⟨c1, e2, hM1⟩ := cutM (F := F) (by omega) hQ hkn h6 hs hM
        obtain ⟨n', s', A', B', f', l', c', g1, g2, g3, g4, g5, g6, g7⟩ := ih (n + 1) k (ns s) _ _ (by omega) (hQ.cut hkn h6 s) (by omega) (ns_lt s) (fun i hi => by
          have a1 : nA n k A B s i = A i := if_neg (by omega)
          have a2 : nB n k A B s i = B i := by unfold nB; rw [if_neg (by omega), if_neg (by omega)]
          rw [a1, a2]
          exact hsm i hi) f1 l1 c1 hX1 hM1 N' M' (by omega) (by omega)
        refine ⟨n', s', A', B', f', l', c', g1, g2, g3, g4, g5, ?_, ?_⟩
        · have e3 := largeX (F := F) (by omega) hQ hX hk hsm (Or.inr h6)
          rw [if_neg q] at e3
          have e4 : nI (n - 1) + 1 = nI (n + 1 - 1) := by rw [nI_1]; exact congrArg nI (by omega)
          simp only [fMaker_cutAll_L2, et, if_false, e3, Option.bind_some, nI_pos' (show k < 2 ^ 31 by omega), if_true, e1, e4]
          exact g6
        · rw [e2]
          exact g7
theorem remI {a d : Nat} (ha : a < 2 ^ 31) (h0 : 0 < d) (hd : d < 2 ^ 31) : o_remI (nI a) (nI d) = some (nI (a % d)) := by
  unfold o_remI
  rw [if_neg (nI_ne0 h0 hd), pk_rem ha h0 hd]
/-- the cell that gets a rectangle's number -/
def cin (a b p : Nat) : Nat := a + 7 * (p / (b % 7 - a % 7 + 1)) + p % (b % 7 - a % 7 + 1)
theorem cin_in {a b p : Nat} (h : RC a b) (hp : p < sz (a, b)) : inb a b (cin a b p) = true ∧ cin a b p < 42 := by
  rw [sz_e h] at hp
  have h1 : p / (b % 7 - a % 7 + 1) < b / 7 - a / 7 + 1 := (Nat.div_lt_iff_lt_mul (by omega)).mpr hp
  have h2 : p % (b % 7 - a % 7 + 1) < b % 7 - a % 7 + 1 := Nat.mod_lt _ (by omega)
  have h' := h
  unfold RC at h'
  rw [inb_iff]
  unfold IN cin
  omega
theorem stepX {F : Nat} {n i : Nat} (hi : i < n) (hn : n ≤ 42) {a b p v sy : Nat} {f l nu : Nat → Int32} (hr : RC a b) (x1 : f i = nI a) (x2 : l i = nI b) (hz : 0 < sz (a, b)) (hsy : sy < 2147483648) (hp : dr (sz (a, b)) sy = p) (hv : cin a b p = v) (N : Nat) : fMaker_writeNumbers_L32 F (nI n) f l (N + 1) (nI i) (lN sy) nu = fMaker_writeNumbers_L32 F (nI n) f l N (nI (i + 1)) (lN (ns sy)) (upd nu v (nI (sz (a, b)))) := by
  have hzl := sz_le (a, b)
  have hd := dr_lt (s := sy) hz
  have t1 : ¬ nI n ≤ nI i := nI_ge hi (by omega)
  have t2 : ¬ (42 : Int32) ≤ nI i := ge42 (by omega)
  have t3 : o_rd 42 f (nI i) = some (nI a) := by rw [o_rd_s (by omega) (by decide), x1]
  have t4 : o_rd 42 l (nI i) = some (nI b) := by rw [o_rd_s (by omega) (by decide), x2]
  have t5 : fX_sizeOf (nI a) (nI b) = some (nI (sz (a, b))) := sizeOf_s hr
  have t6 := drawX (s := sy) hz (by omega) hsy
  rw [hp] at t6 hd
  obtain ⟨w1, w2⟩ := cin_in hr hd
  have t7 : fMaker_cellInside (nI a) (nI b) (nI p) = some (nI (cin a b p)) := by
    have hr' := hr
    unfold RC at hr'
    unfold fMaker_cellInside
    rw [colsX hr, Option.bind_some, if_neg (nI_nle (by omega) (by omega)), nI_divn (by omega) (by omega) (by omega), remI (by omega) (by omega) (by omega), Option.bind_some, Option.bind_some, show (7 : Int32) = nI 7 from rfl, pk_mul, nI_add, nI_add]
    unfold cin
    exact congrArg (fun z => some (nI z)) (by rw [Nat.mul_comm 7])
  have t8 : fBoard_setNumber (nI (cin a b p)) (nI (sz (a, b))) nu = some (upd nu (cin a b p) (nI (sz (a, b)))) := by
    unfold fBoard_setNumber
    rw [fX_isCell_s w2, Option.bind_some, if_neg (by decide), o_wrI_s w2 (by decide)]
    rfl
  rw [hv] at t7 t8
  rw [fMaker_writeNumbers_L32, if_neg t1, if_neg t2, t3, t4]
  simp only [Option.bind_some]
  rw [t5]
  simp only [Option.bind_some]
  rw [t6]
  simp only [Option.bind_some]
  rw [t7]
  simp only [Option.bind_some]
  rw [t8]
  simp only [Option.bind_some]
  rw [nI_1]
theorem stepM {F : Nat} {n i : Nat} {A B : Nat → Nat} {c s : Nat → Int32} (hM : HM n A B c) (hi : i < n) (hn : n ≤ 42) {p v sy : Nat} (hr : RC (A i) (B i)) (hz : 0 < sz (A i, B i)) (hsy : sy < 2147483648) (hp : dr (sz (A i, B i)) sy = p) (hv : cin (A i) (B i) p = v) (N : Nat) : fM_makes_L266 F (nI n) c (N + 1) (nI i) (lN sy) s = fM_makes_L266 F (nI n) c N (nI (i + 1)) (lN (ns sy)) (upd s v (nI (sz (A i, B i)))) := by
  have hzl := sz_le (A i, B i)
  have hd := dr_lt (s := sy) hz
  have hr' := hr
  unfold RC at hr'
  have t1 : ¬ nI n ≤ nI i := nI_ge hi (by omega)
  have t6 := drawM (s := sy) hz (by omega) hsy
  rw [hp] at t6 hd
  obtain ⟨w1, w2⟩ := cin_in hr hd
  obtain ⟨m0, m1, m2, m3⟩ := hM i hi
  have ea := area_s hM hi hn hr
  have u1 : o_rd 168 c (nI (4 * i + 3)) = some (nI (B i % 7)) := by rw [rd168 (by omega), m3]
  have u2 : o_rd 168 c (nI (4 * i + 1)) = some (nI (A i % 7)) := by rw [rd168 (by omega), m1]
  have u3 : o_rd 168 c (nI (4 * i)) = some (nI (A i / 7)) := by rw [rd168 (by omega), m0]
  have a3 : nI (4 * i) + (3 : Int32) = nI (4 * i + 3) := nI_add _ 3
  have a1 : nI (4 * i) + (1 : Int32) = nI (4 * i + 1) := nI_1 _
  have u4 : (((7 : Int32) * (nI (A i / 7) + nI (p / (B i % 7 - A i % 7 + 1)))) + nI (A i % 7)) + nI (p % (B i % 7 - A i % 7 + 1)) = nI v := by
    rw [nI_add, show (7 : Int32) = nI 7 from rfl, pk_mul, nI_add, nI_add, ← hv]
    unfold cin
    exact congrArg nI (by omega)
  have u5 : (nI (B i % 7) - nI (A i % 7)) + 1 = nI (B i % 7 - A i % 7 + 1) := by rw [pk_sub hr'.2.2.2, nI_1]
  have u6 := nI_divn (a := p) (d := B i % 7 - A i % 7 + 1) (by omega) (by omega) (by omega)
  have u7 := remI (a := p) (d := B i % 7 - A i % 7 + 1) (by omega) (by omega) (by omega)
  have u8 : o_wrI 84 s (nI v) (nI (sz (A i, B i))) = some (upd s v (nI (sz (A i, B i)))) := o_wrI_s (by omega) (by decide)
  rw [fM_makes_L266, if_neg t1, m4, a3, a1, u1, u2, u3]
  simp only [Option.bind_some]
  rw [ea]
  simp only [Option.bind_some]
  rw [t6]
  simp only [Option.bind_some]
  rw [u5, u6, u7]
  simp only [Option.bind_some]
  rw [u4, u8]
  simp only [Option.bind_some]
  rw [nI_1]
def NB (n : Nat) (A B : Nat → Nat) (i : Nat) (nu s : Nat → Int32) : Prop := (∀ k, k < 42 → (∃ v, v ≤ 20 ∧ nu k = nI v) ∧ s k = nu k) ∧ (∀ k, k < 42 → nu k ≠ 0 → ∃ j, j < i ∧ inb (A j) (B j) k = true) ∧ fb_ct (fun k => decide (nu k ≠ 0)) 42 = i ∧ ∀ k, k < 42 → s (42 + k) = 0
theorem ct_new {p : Nat → Bool} {c : Nat} (hc : c < 42) (h : p c = false) : fb_ct (fun k => if k = c then true else p k) 42 = fb_ct p 42 + 1 := by
  have h1 := fb_ct_upd p true hc
  rw [h] at h1
  generalize fb_ct (fun k => if k = c then true else p k) 42 = G at h1 ⊢
  generalize fb_ct p 42 = H at h1 ⊢
  simpa using h1
theorem numbers_s {F : Nat} (hF : 1000 < F) {n s' : Nat} {A B : Nat → Nat} {f l c : Nat → Int32} (hQ : QC n A B) (hs' : s' < 2147483648) (hsm : ∀ i, i < n → sz (A i, B i) ≤ 6) (hX : HX n A B f l) (hM : HM n A B c) {nu1 s1 : Nat → Int32} (hnu1 : ∀ k, k < 42 → nu1 k = 0) (hs1 : ∀ k, k < 84 → s1 k = 0) : ∃ (x : Int64) (nu s : Nat → Int32), NB n A B n nu s ∧ fMaker_writeNumbers_L32 F (nI n) f l F 0 (lN s') nu1 = some (nI n, x, nu) ∧ fM_makes_L266 F (nI n) c F 0 (lN s') s1 = some (nI n, x, s) := by
  have hn := hQ.le
  obtain ⟨y, ⟨sy, hsy, hy1, hNB, hy2⟩, eY⟩ := lp0 (F := F) n (by omega) (fun N i (y : (Int64 × (Nat → Int32)) × (Nat → Int32)) => (fMaker_writeNumbers_L32 F (nI n) f l N (nI i) y.1.1 y.1.2).bind fun u => (fM_makes_L266 F (nI n) c N (nI i) y.1.1 y.2).bind fun v => some (u, v)) (fun y => ((nI n, y.1), (nI n, y.1.1, y.2))) (fun i y => ∃ sy, sy < 2147483648 ∧ y.1.1 = lN sy ∧ NB n A B i y.1.2 y.2 ∧ True) (a := ((lN s', nu1), s1)) ⟨s', hs', rfl, ⟨fun k hk => ⟨⟨0, by decide, hnu1 k hk⟩, (hs1 k (by omega)).trans (hnu1 k hk).symm⟩, fun k hk h => absurd (hnu1 k hk) h, fb_ct_zero.mpr (fun k hk => decide_eq_false (not_not_intro (hnu1 k hk))), fun k hk => hs1 _ (by omega)⟩, trivial⟩
    (fun i y hi hy => by
      obtain ⟨sy, hsy, hy1, ⟨b1, b2, b3, b4⟩, -⟩ := hy
      obtain ⟨⟨x, nu⟩, s⟩ := y
      simp only at hy1 b1 b2 b3 b4
      subst hy1
      have hr := hQ.2.1 i hi
      have hz := sz_pos (r := (A i, B i)) hr
      have hz6 := hsm i hi
      obtain ⟨x1, x2⟩ := hX i hi
      have hd := dr_lt (s := sy) hz
      have sX := fun N => stepX (F := F) (nu := nu) hi hn hr x1 x2 hz hsy rfl rfl N
      have sM := fun N => stepM (F := F) (s := s) hM hi hn hr hz hsy rfl rfl N
      generalize dr (sz (A i, B i)) sy = p at hd sX sM
      obtain ⟨w1, w2⟩ := cin_in hr hd
      have hfresh : nu (cin (A i) (B i) p) = 0 := by
        apply Classical.byContradiction
        intro q
        obtain ⟨j, hj, hjn⟩ := b2 _ w2 q
        exact hQ.2.2.1 j i (by omega) hi (by omega) _ w2 ⟨hjn, w1⟩
      have hnz : nI (sz (A i, B i)) ≠ 0 := nI_ne0 hz (by omega)
      refine ⟨((lN (ns sy), upd nu (cin (A i) (B i) p) (nI (sz (A i, B i)))), upd s (cin (A i) (B i) p) (nI (sz (A i, B i)))), ⟨ns sy, ns_lt sy, rfl, ⟨fun k hk => ?_, fun k hk hk0 => ?_, ?_, fun k hk => ?_⟩, trivial⟩, fun N => ?_⟩
      · by_cases q : k = cin (A i) (B i) p
        · subst q
          exact ⟨⟨sz (A i, B i), by omega, upd_at _ _ _⟩, (upd_at _ _ _).trans (upd_at _ _ _).symm⟩
        · simp only [upd_off _ _ q]
          exact b1 k hk
      · by_cases q : k = cin (A i) (B i) p
        · subst q
          exact ⟨i, by omega, w1⟩
        · simp only [upd_off _ _ q] at hk0
          obtain ⟨j, hj, hjn⟩ := b2 k hk hk0
          exact ⟨j, by omega, hjn⟩
      · refine Eq.trans (fb_ct_cong (q := fun k => if k = cin (A i) (B i) p then true else decide (nu k ≠ 0)) (fun k _ => ?_)) ((ct_new w2 (decide_eq_false (not_not_intro hfresh))).trans (congrArg (fun z => z + 1) b3))
        show decide (upd nu (cin (A i) (B i) p) (nI (sz (A i, B i))) k ≠ 0) = if k = cin (A i) (B i) p then true else decide (nu k ≠ 0)
        by_cases q : k = cin (A i) (B i) p
        · rw [if_pos q, q, upd_at, decide_eq_true hnz]
        · rw [if_neg q, upd_off _ _ q]
      · simp only
        rw [upd_off _ _ (by omega)]
        exact b4 k hk
      · show (fMaker_writeNumbers_L32 F (nI n) f l (N + 1) (nI i) (lN sy) nu).bind _ = _
        rw [sX N]
        show ((fMaker_writeNumbers_L32 F (nI n) f l N (nI (i + 1)) (lN (ns sy)) _).bind fun u => (fM_makes_L266 F (nI n) c (N + 1) (nI i) (lN sy) s).bind fun v => some (u, v)) = _
        rw [sM N])
    (fun N y hy => by simp only [fMaker_writeNumbers_L32, fM_makes_L266, Int32.le_refl, if_true, Option.bind_some])
  obtain ⟨u, eu, ev⟩ := hf_bind eY
  obtain ⟨v, ev, euv⟩ := hf_bind ev
  have euv := Option.some.inj euv
  have hu : u = (nI n, y.1) := congrArg Prod.fst euv
  have hv : v = (nI n, y.1.1, y.2) := congrArg Prod.snd euv
  rw [hu] at eu
  rw [hv] at ev
  rw [nI_0] at eu ev
  exact ⟨y.1.1, y.1.2, y.2, hNB, eu, ev⟩
theorem cut0 : QC 1 (fun _ => 0) (fun _ => 41) := ⟨by decide, fun i _ => (show RC 0 41 by unfold RC; decide), fun i j hi hj hne => by omega, by decide +kernel⟩
theorem clrX {F : Nat} (hF : 42 < F) (nu0 : Nat → Int32) : ∃ nu1, fBoard_removeNumbers F nu0 = some nu1 ∧ ∀ k, k < 42 → nu1 k = 0 := by
  obtain ⟨nu1, hnu1, e2⟩ := lp0 (F := F) 42 (by omega) (fun N i (t : Nat → Int32) => fBoard_removeNumbers_L2 F N (nI i) t) (fun t => (nI 42, t)) (fun i t => ∀ k, k < i → t k = 0) (a := nu0) (fun k hk => by omega)
    (fun i t hi ht => by
      refine ⟨upd t i 0, fun k hk => ?_, fun N => ?_⟩
      · by_cases q : k = i
        · subst q; exact upd_at _ _ _
        · rw [upd_off _ _ q]; exact ht k (by omega)
      · simp only [fBoard_removeNumbers_L2, ge42 hi, if_false, o_wrI_s hi (show 42 < 2 ^ 31 by decide), Option.bind_some, nI_1])
    (fun N t ht => by simp only [fBoard_removeNumbers_L2, le42, if_true])
  rw [nI_0] at e2
  refine ⟨nu1, ?_, hnu1⟩
  unfold fBoard_removeNumbers
  rw [e2]
  rfl
theorem clrM {F : Nat} (hF : 84 < F) (s0 : Nat → Int32) : ∃ s1, fM_makes_L242 F F 0 s0 = some (nI 84, s1) ∧ ∀ k, k < 84 → s1 k = 0 := by
  obtain ⟨s1, hs1, e3⟩ := lp0 (F := F) 84 (by omega) (fun N i (t : Nat → Int32) => fM_makes_L242 F N (nI i) t) (fun t => (nI 84, t)) (fun i t => ∀ k, k < i → t k = 0) (a := s0) (fun k hk => by omega)
    (fun i t hi ht => by
      refine ⟨upd t i 0, fun k hk => ?_, fun N => ?_⟩
      · by_cases q : k = i
        · subst q; exact upd_at _ _ _
        · rw [upd_off _ _ q]; exact ht k (by omega)
      · simp only [fM_makes_L242, show ¬ (84 : Int32) ≤ nI i from nI_ge (b := 84) hi (by decide), if_false, o_wrI_s hi (show 84 < 2 ^ 31 by decide), Option.bind_some, nI_1])
    (fun N t ht => by simp only [fM_makes_L242, show (84 : Int32) ≤ nI 84 from Int32.le_refl _, if_true])
  rw [nI_0] at e3
  exact ⟨s1, e3, hs1⟩
theorem hx0 (f0 l0 : Nat → Int32) : HX 1 (fun _ => 0) (fun _ => 41) (upd f0 0 0) (upd l0 0 41) := fun i hi => by
  have : i = 0 := by omega
  subst this
  exact ⟨upd_at _ _ _, upd_at _ _ _⟩
theorem hm0 (cu0 : Nat → Int32) : HM 1 (fun _ => 0) (fun _ => 41) (upd (upd (upd (upd cu0 0 0) 1 0) 2 5) 3 6) := fun i hi => by
  have : i = 0 := by omega
  subst this
  refine ⟨?_, ?_, ?_, ?_⟩
  · show upd (upd (upd (upd cu0 0 0) 1 0) 2 5) 3 6 0 = _
    rw [upd_off _ _ (by decide), upd_off _ _ (by decide), upd_off _ _ (by decide), upd_at]
    rfl
  · show upd (upd (upd (upd cu0 0 0) 1 0) 2 5) 3 6 1 = _
    rw [upd_off _ _ (by decide), upd_off _ _ (by decide), upd_at]
    rfl
  · show upd (upd (upd (upd cu0 0 0) 1 0) 2 5) 3 6 2 = _
    rw [upd_off _ _ (by decide), upd_at]
    rfl
  · show upd (upd (upd (upd cu0 0 0) 1 0) 2 5) 3 6 3 = _
    rw [upd_at]
    rfl
theorem w168 (c : Nat → Int32) (i : Nat) (hi : i < 168) (v j : Int32) (hj : j = nI i) : o_wrI 168 c j v = some (upd c i v) := by rw [hj]; exact wr168 hi
theorem makes_s {F : Nat} (hF : 1000 < F) {sd : Nat} (hsd : sd < 1000000) (iF nu0 : Nat → Int32) (x0 : Int64) (c0 : Int32) (f0 l0 : Nat → Int32) (ms0 : Int64) (cu0 s0 : Nat → Int32) : ∃ (iF' nu' : Nat → Int32) (x' : Int64) (c' : Int32) (l' f' : Nat → Int32) (n : Nat) (ms' : Int64) (cu' s' : Nat → Int32), fMaker_writeNumbers F (nI sd) iF nu0 x0 c0 f0 l0 = some (iF', nu', x', c', f', l') ∧ fM_makes F (nI sd) ms0 cu0 s0 = some (nI n, ms', cu', s') ∧ fb_ct (fun k => decide (nu' k ≠ 0)) 42 = n ∧ ∀ fi la, BR nu' iF' fi la s' 0 := by
  obtain ⟨iF', e1, h1⟩ := removeFields_s (F := F) (by omega) iF
  obtain ⟨nu1, e2, hnu1⟩ := clrX (F := F) (by omega) nu0
  obtain ⟨s1, e3, hs1⟩ := clrM (F := F) (by omega) s0
  obtain ⟨n, s', A, B, f, l, c, hQ, hs', hsm, hX, hM, eX, eM⟩ := cuts_s hF 83 1 0 sd _ _ (by omega) cut0 (by omega) (by omega) (fun i hi => by omega) _ _ _ (hx0 f0 l0) (hm0 cu0) F F (by omega) (by omega)
  rw [show (1 : Nat) - 1 = 0 from rfl, nI_0] at eX
  rw [nI_0] at eM
  obtain ⟨x, nu, s, ⟨b1, b2, b3, b4⟩, eu, ev⟩ := numbers_s hF hQ hs' hsm hX hM hnu1 hs1
  have eP : fMaker_put (0 : Int32) (41 : Int32) (0 : Int32) f0 l0 = some (upd f0 0 0, upd l0 0 41, nI 1) := by
    have := putX (n := 0) (by decide) 0 41 f0 l0
    rw [nI_0] at this
    exact this
  refine ⟨iF', nu, x, nI n, l, f, n, x, c, s, ?_, ?_, b3, fun fi la k hk => ?_⟩
  · unfold fMaker_writeNumbers fMaker_cutAll
    rw [e1, e2, eP]
    simp only [Option.bind_some]
    rw [nI_l (by omega), eX]
    simp only [Option.bind_some]
    rw [eu]
    rfl
  · unfold fM_makes
    rw [w168 cu0 0 (by decide) 0 0 nI_0.symm]
    simp only [Option.bind_some]
    rw [w168 _ 1 (by decide) 0 1 rfl]
    simp only [Option.bind_some]
    rw [w168 _ 2 (by decide) 5 2 rfl]
    simp only [Option.bind_some]
    rw [w168 _ 3 (by decide) 6 3 rfl]
    simp only [Option.bind_some]
    rw [nI_l (by omega), show (1 : Int32) = nI 1 from rfl, eM]
    simp only [Option.bind_some]
    rw [e3]
    simp only [Option.bind_some]
    rw [ev]
    rfl
  · refine ⟨(b1 k hk).1, by rw [Nat.zero_add]; exact (b1 k hk).2, Or.inl ⟨h1 k hk, ?_⟩⟩
    rw [Nat.zero_add]
    exact b4 k hk
