/-! p47, THE MATHEMATICS: numbers that are made have a way. Own text. -/
theorem pw_range (R : Nat → Nat → Prop) : ∀ n, (∀ i j, i < j → j < n → R i j) → (List.range n).Pairwise R
  | 0, _ => List.Pairwise.nil
  | n + 1, h => by
    rw [List.range_succ]
    refine List.pairwise_append.mpr ⟨pw_range R n (fun i j h1 h2 => h i j h1 (by omega)), List.pairwise_singleton _ _, fun x hx y hy => ?_⟩
    rw [List.mem_singleton] at hy
    rw [hy]
    exact h x n (List.mem_range.mp hx) (by omega)
theorem sm_range {α : Type} (f : Nat → α) (g : α → Nat) : ∀ n, sm ((List.range n).map f) g = fb_sm (fun i => g (f i)) n
  | 0 => rfl
  | n + 1 => by
    have e : sm ([n].map f) g = g (f n) := rfl
    rw [List.range_succ, List.map_append, sm_append, sm_range f g n, fb_sm_succ, e]
def NX (A B : Nat → Nat) (i : Nat) (nu : Nat → Int32) : Prop := NV nu ∧ (∀ k, k < 42 → nu k ≠ 0 → ∃ j, j < i ∧ inb (A j) (B j) k = true) ∧ ∀ j, j < i → ∃ c, c < 42 ∧ inb (A j) (B j) c = true ∧ nu c = nI (sz (A j, B j)) ∧ ∀ k, k < 42 → inb (A j) (B j) k = true → nu k ≠ 0 → k = c
theorem numbersX_s {F : Nat} (hF : 1000 < F) {n s' : Nat} {A B : Nat → Nat} {f l : Nat → Int32} (hQ : QC n A B) (hs' : s' < 2147483648) (hsm : ∀ i, i < n → sz (A i, B i) ≤ 6) (hX : HX n A B f l) {nu1 : Nat → Int32} (hnu1 : ∀ k, k < 42 → nu1 k = 0) : ∃ (x : Int64) (nu : Nat → Int32), NX A B n nu ∧ fMaker_writeNumbers_L32 F (nI n) f l F 0 (lN s') nu1 = some (nI n, x, nu) := by
  have hn := hQ.le
  obtain ⟨y, ⟨sy, hsy, hy1, hNX⟩, eY⟩ := lp0 (F := F) n (by omega) (fun N i (y : Int64 × (Nat → Int32)) => fMaker_writeNumbers_L32 F (nI n) f l N (nI i) y.1 y.2) (fun y => (nI n, y.1, y.2)) (fun i y => ∃ sy, sy < 2147483648 ∧ y.1 = lN sy ∧ NX A B i y.2) (a := (lN s', nu1)) ⟨s', hs', rfl, fun k hk => ⟨0, by decide, hnu1 k hk⟩, fun k hk h => absurd (hnu1 k hk) h, fun j hj => absurd hj (Nat.not_lt_zero j)⟩
    (fun i y hi hy => by
      obtain ⟨sy, hsy, hy1, b1, b2, b3⟩ := hy
      obtain ⟨x, nu⟩ := y
      simp only at hy1 b1 b2 b3
      subst hy1
      have hr := hQ.2.1 i hi
      have hz := sz_pos (r := (A i, B i)) hr
      have hz6 := hsm i hi
      obtain ⟨x1, x2⟩ := hX i hi
      have hd := dr_lt (s := sy) hz
      have sX := fun N => stepX (F := F) (nu := nu) hi hn hr x1 x2 hz hsy rfl rfl N
      generalize dr (sz (A i, B i)) sy = p at hd sX
      obtain ⟨w1, w2⟩ := cin_in hr hd
      generalize cin (A i) (B i) p = c at w1 w2 sX
      have hfresh : ∀ k, k < 42 → inb (A i) (B i) k = true → nu k = 0 := fun k hk hi2 => by
        apply Classical.byContradiction
        intro q
        obtain ⟨j, hj, hjn⟩ := b2 _ hk q
        exact hQ.2.2.1 j i (by omega) hi (by omega) _ hk ⟨hjn, hi2⟩
      refine ⟨(lN (ns sy), upd nu c (nI (sz (A i, B i)))), ⟨ns sy, ns_lt sy, rfl, fun k hk => ?_, fun k hk hk0 => ?_, fun j hj => ?_⟩, fun N => sX N⟩
      · by_cases q : k = c
        · rw [q]; exact ⟨sz (A i, B i), by omega, upd_at _ _ _⟩
        · simp only [upd_off _ _ q]
          exact b1 k hk
      · by_cases q : k = c
        · rw [q]; exact ⟨i, by omega, w1⟩
        · simp only [upd_off _ _ q] at hk0
          obtain ⟨j, hj, hjn⟩ := b2 k hk hk0
          exact ⟨j, by omega, hjn⟩
      · by_cases q : j = i
        · rw [q]
          refine ⟨c, w2, w1, upd_at _ _ _, fun k hk h1 h2 => ?_⟩
          apply Classical.byContradiction
          intro e
          simp only [upd_off _ _ e] at h2
          exact h2 (hfresh k hk h1)
        · obtain ⟨c', h1, h2, h3, h4⟩ := b3 j (by omega)
          have hnc : ∀ k, k < 42 → inb (A j) (B j) k = true → k ≠ c := fun k hk hk2 e => by
            rw [e] at hk2
            exact hQ.2.2.1 j i (by omega) hi q c w2 ⟨hk2, w1⟩
          refine ⟨c', h1, h2, ?_, fun k hk h5 h6 => ?_⟩
          · simp only [upd_off _ _ (hnc c' h1 h2)]
            exact h3
          · simp only [upd_off _ _ (hnc k hk h5)] at h6
            exact h4 k hk h5 h6)
    (fun N y hy => by simp only [fMaker_writeNumbers_L32, Int32.le_refl, if_true])
  rw [nI_0] at eY
  exact ⟨y.1, y.2, hNX, eY⟩
theorem FB_new {nu inF : Nat → Int32} (hn : NV nu) (h0 : ∀ k, k < 42 → inF k = 0) (fi la : Nat → Int32) : FB nu inF fi la [] :=
  ⟨hn, fun r hr => (by cases hr), List.Pairwise.nil, fun k hk => ⟨fun r hr => (by cases hr), fun _ => h0 k hk⟩⟩
theorem xmakes_s {F : Nat} (hF : 1000 < F) {sd : Nat} (hsd : sd < 1000000) (iF nu0 : Nat → Int32) (x0 : Int64) (c0 : Int32) (f0 l0 : Nat → Int32) : ∃ (iF' nu' : Nat → Int32) (x' : Int64) (c' : Int32) (f' l' : Nat → Int32), fMaker_writeNumbers F (nI sd) iF nu0 x0 c0 f0 l0 = some (iF', nu', x', c', f', l') ∧ NV nu' ∧ (∀ k, k < 42 → iF' k = 0) ∧ WW nu' iF' (Tk iF') ≠ 0 := by
  obtain ⟨iF', e1, h1⟩ := removeFields_s (F := F) (by omega) iF
  obtain ⟨nu1, e2, hnu1⟩ := clrX (F := F) (by omega) nu0
  obtain ⟨n, s', A, B, f, l, c, hQ, hs', hsm, hX, hM, eX, eM⟩ := cuts_s hF 83 1 0 sd _ _ (by omega) cut0 (by omega) (by omega) (fun i hi => by omega) _ _ _ (hx0 f0 l0) (hm0 (fun _ => 0)) F F (by omega) (by omega)
  rw [show (1 : Nat) - 1 = 0 from rfl, nI_0] at eX
  obtain ⟨x, nu, ⟨b1, b2, b3⟩, eu⟩ := numbersX_s hF hQ hs' hsm hX hnu1
  have eP : fMaker_put (0 : Int32) (41 : Int32) (0 : Int32) f0 l0 = some (upd f0 0 0, upd l0 0 41, nI 1) := by
    have := putX (n := 0) (by decide) 0 41 f0 l0
    rw [nI_0] at this
    exact this
  refine ⟨iF', nu, x, nI n, f, l, ?_, b1, h1, ?_⟩
  · unfold fMaker_writeNumbers fMaker_cutAll
    rw [e1, e2, eP]
    simp only [Option.bind_some]
    rw [nI_l (by omega), eX]
    simp only [Option.bind_some]
    rw [eu]
    rfl
  · have hOK : ∀ j, j < n → RC (A j) (B j) ∧ OK nu iF' (A j, B j) = true := fun j hj => by
      obtain ⟨c, h2, h3, h4, h5⟩ := b3 j hj
      have hz := sz_pos (r := (A j, B j)) (hQ.2.1 j hj)
      have hz6 := hsm j hj
      have hc0 : nu c ≠ 0 := by rw [h4]; exact nI_ne0 hz (by omega)
      have hp : nmb nu (A j, B j) c = true := by
        show (inb (A j) (B j) c && decide (nu c ≠ 0)) = true
        rw [h3, decide_eq_true hc0]; rfl
      obtain ⟨g1, g2⟩ := ct_one_of (p := nmb nu (A j, B j)) h2 hp (fun k hk hp => by
        have hp2 : (inb (A j) (B j) k && decide (nu k ≠ 0)) = true := hp
        rw [Bool.and_eq_true, decide_eq_true_eq] at hp2
        exact h5 k hk hp2.1 hp2.2)
      refine ⟨hQ.2.1 j hj, OK_iff.mpr ⟨fb_ct_zero.mpr (fun k hk => ?_), g1, ?_⟩⟩
      · unfold tkn
        rw [decide_eq_false (not_not_intro (h1 k hk)), Bool.and_false]
      · unfold own
        rw [g2]
        exact h4
    have hpw : ((List.range n).map (fun j => (A j, B j))).Pairwise DJ := List.pairwise_map.mpr (pw_range _ n (fun i j hij hj => hQ.2.2.1 i j (by omega) hj (by omega)))
    have hall : fb_ct (fun k => ((List.range n).map (fun j => (A j, B j))).any (fun r => inb r.1 r.2 k)) 42 = 42 := by
      have e4 : sm ((List.range n).map (fun j => (A j, B j))) (fun r => fb_sm (fun k => if inb r.1 r.2 k = true then 1 else 0) 42) = sm ((List.range n).map (fun j => (A j, B j))) sz := sm_cong (fun r _ => fb_sm_ind (inb r.1 r.2) 42)
      rw [← fb_sm_ind, cov_sum (fun _ => 1) hpw, e4, sm_range]
      exact hQ.2.2.2
    refine CV_W _ (Tk iF') rfl (inB_Tk iF') ((List.range n).map (fun j => (A j, B j))) ⟨fun r hr => ?_, hpw, fun k hk _ => ?_⟩
    · obtain ⟨j, hj, e⟩ := List.mem_map.mp hr
      have hj' := List.mem_range.mp hj
      rw [← e]
      exact ⟨mem_XL.mpr (hOK j hj'), dj_iff.mpr (fun k hk _ => tk_free hk (h1 k hk))⟩
    · obtain ⟨r, hr, hi⟩ := List.any_eq_true.mp (fb_ct_all.mp hall k hk)
      exact ⟨r, hr, hi⟩
