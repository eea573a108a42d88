/-! p47, THE MATHEMATICS: a board whose fields each hold one number, which tells how many cells it has. Own text. -/
def nv (x : Int32) : Nat := x.toNatClampNeg
theorem nv_nI {v : Nat} (h : v < 2 ^ 31) : nv (nI v) = v := nI_clamp h
def NV (nu : Nat → Int32) : Prop := ∀ k, k < 42 → ∃ v, v ≤ 20 ∧ nu k = nI v
theorem NV.get {nu : Nat → Int32} (h : NV nu) {k : Nat} (hk : k < 42) : nu k = nI (nv (nu k)) ∧ nv (nu k) ≤ 20 := by
  obtain ⟨v, hv, e⟩ := h k hk
  have e2 : nv (nu k) = v := by rw [e, nv_nI (by omega)]
  rw [e2]
  exact ⟨e, hv⟩
theorem NV.zero {nu : Nat → Int32} (h : NV nu) {k : Nat} (hk : k < 42) : nu k = 0 ↔ nv (nu k) = 0 := by
  obtain ⟨v, hv, e⟩ := h k hk
  rw [e, nv_nI (by omega)]
  constructor
  · intro q
    exact Classical.byContradiction (fun c => nI_ne0 (Nat.pos_of_ne_zero c) (by omega) q)
  · intro q
    rw [q, nI_0]
theorem isum_of {f : Nat → Int32} {g : Nat → Nat} : ∀ {n : Nat}, (∀ k, k < n → f k = nI (g k)) → isum f n = nI (fb_sm g n)
  | 0, _ => rfl
  | n + 1, h => by
    show isum f n + f n = _
    rw [isum_of (fun k hk => h k (by omega)), h n (by omega), nI_add, fb_sm_succ]
theorem isum_nv {nu : Nat → Int32} (h : NV nu) : isum nu 42 = nI (fb_sm (fun k => nv (nu k)) 42) := isum_of (fun k hk => (h.get hk).1)
theorem fb_sm_at (v : Nat) {o n : Nat} (ho : o < n) : fb_sm (fun k => if k = o then v else 0) n = v := by
  have h : fb_sm (fun k => if k = o then v else 0) n + 0 = fb_sm (fun _ => 0) n + v := fb_sm_upd (fun _ => 0) v ho
  rw [fb_sm_const, Nat.mul_zero, Nat.add_zero, Nat.zero_add] at h
  exact h
/-- a sum over the cells of rectangles that are apart -/
theorem cov_sum (g : Nat → Nat) : ∀ {D : List (Nat × Nat)}, D.Pairwise DJ → fb_sm (fun k => if D.any (fun r => inb r.1 r.2 k) = true then g k else 0) 42 = sm D (fun r => fb_sm (fun k => if inb r.1 r.2 k = true then g k else 0) 42)
  | [], _ => by
    rw [sm_nil]
    have e : fb_sm (fun k => if ([] : List (Nat × Nat)).any (fun r => inb r.1 r.2 k) = true then g k else 0) 42 = fb_sm (fun _ => 0) 42 := fb_sm_cong (fun k hk => by rw [List.any_nil, if_neg (by decide)])
    rw [e, fb_sm_const]
  | r :: t, h => by
    obtain ⟨h1, h2⟩ := List.pairwise_cons.mp h
    rw [sm_cons, ← cov_sum g h2, ← fb_sm_add]
    refine fb_sm_cong (fun k hk => ?_)
    rw [List.any_cons]
    by_cases q1 : inb r.1 r.2 k = true
    · have q2 : ¬ t.any (fun x => inb x.1 x.2 k) = true := fun e => by
        obtain ⟨x, hx, e2⟩ := List.any_eq_true.mp e
        exact h1 x hx k hk ⟨q1, e2⟩
      rw [if_pos q1, if_neg q2, if_pos (show (inb r.1 r.2 k || t.any (fun x => inb x.1 x.2 k)) = true by rw [q1, Bool.true_or]), Nat.add_zero]
    · rw [if_neg q1, Nat.zero_add]
      by_cases q2 : t.any (fun x => inb x.1 x.2 k) = true
      · rw [if_pos q2, if_pos (show (inb r.1 r.2 k || t.any (fun x => inb x.1 x.2 k)) = true by rw [q2, Bool.or_true])]
      · rw [if_neg q2, if_neg (show ¬ (inb r.1 r.2 k || t.any (fun x => inb x.1 x.2 k)) = true by rw [ts_nt q1, Bool.false_or]; exact q2)]
def FD (nu : Nat → Int32) (r : Nat × Nat) : Prop := RC r.1 r.2 ∧ fb_ct (nmb nu r) 42 = 1 ∧ nu (own nu r) = nI (sz r)
theorem FD_of {nu inF : Nat → Int32} {r : Nat × Nat} (h : RC r.1 r.2) (h2 : OK nu inF r = true) : FD nu r := ⟨h, (OK_iff.mp h2).2⟩
theorem FDown {nu : Nat → Int32} {r : Nat × Nat} (h : FD nu r) : own nu r < 42 ∧ inb r.1 r.2 (own nu r) = true ∧ nu (own nu r) ≠ 0 ∧ ∀ k, k < 42 → inb r.1 r.2 k = true → nu k ≠ 0 → k = own nu r := by
  obtain ⟨a, b, c⟩ := ct_one h.2.1
  have b2 : (inb r.1 r.2 (own nu r) && decide (nu (own nu r) ≠ 0)) = true := b
  rw [Bool.and_eq_true, decide_eq_true_eq] at b2
  exact ⟨a, b2.1, b2.2, fun k hk h1 h2 => c k hk (show (inb r.1 r.2 k && decide (nu k ≠ 0)) = true by rw [h1, decide_eq_true h2]; rfl)⟩
/-- the numbers of a field are its cells -/
theorem rect_sum {nu : Nat → Int32} (hn : NV nu) {r : Nat × Nat} (h : FD nu r) : fb_sm (fun k => if inb r.1 r.2 k = true then nv (nu k) else 0) 42 = sz r := by
  obtain ⟨o1, o2, o3, o4⟩ := FDown h
  have e : fb_sm (fun k => if inb r.1 r.2 k = true then nv (nu k) else 0) 42 = fb_sm (fun k => if k = own nu r then sz r else 0) 42 := by
    refine fb_sm_cong (fun k hk => ?_)
    by_cases q : k = own nu r
    · rw [if_pos q, q, if_pos o2, h.2.2, nv_nI (by have := sz_le r; omega)]
    · rw [if_neg q]
      by_cases q2 : inb r.1 r.2 k = true
      · rw [if_pos q2]
        exact (hn.zero hk).mp (Classical.byContradiction (fun c => q (o4 k hk q2 c)))
      · rw [if_neg q2]
  rw [e, fb_sm_at (sz r) o1]
theorem rect_one {nu : Nat → Int32} {r : Nat × Nat} (h : FD nu r) : fb_sm (fun k => if inb r.1 r.2 k = true then (if decide (nu k ≠ 0) = true then 1 else 0) else 0) 42 = 1 := by
  have e : fb_sm (fun k => if inb r.1 r.2 k = true then (if decide (nu k ≠ 0) = true then 1 else 0) else 0) 42 = fb_sm (fun k => if nmb nu r k = true then 1 else 0) 42 := by
    refine fb_sm_cong (fun k hk => ?_)
    unfold nmb
    by_cases q2 : inb r.1 r.2 k = true
    · rw [if_pos q2, q2, Bool.true_and]
    · rw [if_neg q2, ts_nt q2, Bool.false_and, if_neg (by decide)]
  rw [e, fb_sm_ind]
  exact h.2.1
def FB (nu inF fi la : Nat → Int32) (D : List (Nat × Nat)) : Prop := NV nu ∧ (∀ r, r ∈ D → FD nu r) ∧ D.Pairwise DJ ∧ ∀ k, k < 42 → (∀ r, r ∈ D → inb r.1 r.2 k = true → inF k = 1 ∧ fi k = nI r.1 ∧ la k = nI r.2) ∧ ((∀ r, r ∈ D → inb r.1 r.2 k = false) → inF k = 0)
def rowOf (nu inF fi : Nat → Int32) (k : Nat) : Int32 := if k < 42 then nu k else if inF (k - 42) = 0 then 0 else fi (k - 42) + 1
theorem one_n0 : ¬ (1 : Int32) = 0 := by decide
theorem dn0 {x : Int32} (h : x = 0) : ¬ decide (x ≠ 0) = true := by rw [h]; decide
section FB
variable {nu inF fi la : Nat → Int32} {D : List (Nat × Nat)}
theorem FB.cell (h : FB nu inF fi la D) {k : Nat} (hk : k < 42) : (inF k = 0 ∧ ∀ r, r ∈ D → inb r.1 r.2 k = false) ∨ (inF k = 1 ∧ ∃ r, r ∈ D ∧ inb r.1 r.2 k = true ∧ fi k = nI r.1 ∧ la k = nI r.2) := by
  by_cases q : ∃ r, r ∈ D ∧ inb r.1 r.2 k = true
  · obtain ⟨r, hr, hi⟩ := q
    obtain ⟨e1, e2, e3⟩ := (h.2.2.2 k hk).1 r hr hi
    exact Or.inr ⟨e1, r, hr, hi, e2, e3⟩
  · have q2 : ∀ r, r ∈ D → inb r.1 r.2 k = false := fun r hr => ts_nt (fun e => q ⟨r, hr, e⟩)
    exact Or.inl ⟨(h.2.2.2 k hk).2 q2, q2⟩
theorem FB.bit (h : FB nu inF fi la D) : ∀ k, k < 42 → inF k = 0 ∨ inF k = 1 := fun k hk => by
  rcases h.cell hk with ⟨e, -⟩ | ⟨e, -⟩
  · exact Or.inl e
  · exact Or.inr e
theorem FB.br (h : FB nu inF fi la D) : BR nu inF fi la (rowOf nu inF fi) 0 := fun k hk => by
  have e1 : rowOf nu inF fi (0 + k) = nu k := by unfold rowOf; rw [Nat.zero_add, if_pos hk]
  have e2 : rowOf nu inF fi (0 + 42 + k) = if inF k = 0 then 0 else fi k + 1 := by unfold rowOf; rw [if_neg (by omega), show 0 + 42 + k - 42 = k by omega]
  refine ⟨h.1 k hk, e1, ?_⟩
  rw [e2]
  rcases h.cell hk with ⟨e, -⟩ | ⟨e, r, hr, hi, ef, el⟩
  · exact Or.inl ⟨e, if_pos e⟩
  · refine Or.inr ⟨e, r.1, r.2, (h.2.1 r hr).1, inb_iff.mp hi, ef, el, ?_, fun j hj => ?_⟩
    · rw [if_neg (by rw [e]; exact one_n0), ef, nI_1]
    · exact (h.2.2.2 j (IN_lt (h.2.1 r hr).1 hj)).1 r hr (inb_iff.mpr hj)
theorem FB.sum (h : FB nu inF fi la D) (g : Nat → Nat) : fb_sm (fun k => if inF k = 0 then 0 else g k) 42 = sm D (fun r => fb_sm (fun k => if inb r.1 r.2 k = true then g k else 0) 42) := by
  rw [← cov_sum g h.2.2.1]
  refine fb_sm_cong (fun k hk => ?_)
  rcases h.cell hk with ⟨e, e2⟩ | ⟨e, r, hr, hi, -, -⟩
  · rw [if_pos e, if_neg]
    intro c
    obtain ⟨x, hx, e3⟩ := List.any_eq_true.mp c
    rw [e2 x hx] at e3
    cases e3
  · rw [if_neg (by rw [e]; exact one_n0), if_pos (List.any_eq_true.mpr ⟨r, hr, hi⟩)]
theorem FB.size (h : FB nu inF fi la D) : fb_ct (fun k => decide (inF k ≠ 0)) 42 = sm D sz := by
  have e : fb_ct (fun k => decide (inF k ≠ 0)) 42 = fb_sm (fun k => if inF k = 0 then 0 else 1) 42 := by
    rw [← fb_sm_ind]
    refine fb_sm_cong (fun k hk => ?_)
    by_cases q : inF k = 0
    · rw [if_pos q, if_neg (dn0 q)]
    · rw [if_neg q, if_pos (decide_eq_true q)]
  rw [e, h.sum (fun _ => 1)]
  exact sm_cong (fun r hr => fb_sm_ind (inb r.1 r.2) 42)
theorem FB.nums (h : FB nu inF fi la D) : fb_sm (fun k => if inF k = 0 then 0 else nv (nu k)) 42 = sm D sz := by
  rw [h.sum (fun k => nv (nu k))]
  exact sm_cong (fun r hr => rect_sum h.1 (h.2.1 r hr))
theorem FB.fields (h : FB nu inF fi la D) : fb_ct (crn inF fi) 42 = D.length := by
  have e : fb_ct (crn inF fi) 42 = fb_sm (fun k => if inF k = 0 then 0 else if fi k = nI k then 1 else 0) 42 := by
    rw [← fb_sm_ind]
    refine fb_sm_cong (fun k hk => ?_)
    unfold crn
    by_cases q : inF k = 0
    · rw [if_pos q, if_neg (fun c => (of_decide_eq_true c).1 q)]
    · rw [if_neg q]
      by_cases q2 : fi k = nI k
      · rw [if_pos q2, if_pos (decide_eq_true ⟨q, q2⟩)]
      · rw [if_neg q2, if_neg (fun c => q2 (of_decide_eq_true c).2)]
  rw [e, h.sum (fun k => if fi k = nI k then 1 else 0), ← sm_one]
  refine sm_cong (fun r hr => ?_)
  have hrc := (h.2.1 r hr).1
  have e3 : fb_sm (fun k => if inb r.1 r.2 k = true then (if fi k = nI k then 1 else 0) else 0) 42 = fb_sm (fun k => if k = r.1 then 1 else 0) 42 := by
    refine fb_sm_cong (fun k hk => ?_)
    by_cases q : inb r.1 r.2 k = true
    · have e2 := ((h.2.2.2 k hk).1 r hr q).2.1
      rw [if_pos q, e2]
      by_cases q2 : k = r.1
      · rw [if_pos q2, if_pos (by rw [q2])]
      · rw [if_neg q2, if_neg (fun c => q2 (nI_inj (by have := hrc.1; omega) (by omega) c).symm)]
    · rw [if_neg q, if_neg (fun c => q (by rw [c]; exact inb_iff.mpr (IN_a hrc)))]
  rw [e3]
  exact fb_sm_at 1 hrc.1
theorem FB.cnt (h : FB nu inF fi la D) : fb_sm (fun k => if inF k = 0 then 0 else if decide (nu k ≠ 0) = true then 1 else 0) 42 = D.length := by
  rw [h.sum (fun k => if decide (nu k ≠ 0) = true then 1 else 0), ← sm_one]
  exact sm_cong (fun r hr => rect_one (h.2.1 r hr))
theorem FB.le (h : FB nu inF fi la D) : D.length ≤ fb_ct (fun k => decide (nu k ≠ 0)) 42 := by
  rw [← h.cnt, ← fb_sm_ind]
  refine fb_sm_le (fun k hk => ?_)
  by_cases q : inF k = 0
  · rw [if_pos q]; exact Nat.zero_le _
  · rw [if_neg q]; exact Nat.le_refl _
theorem FB.full (h : FB nu inF fi la D) (hf : ∀ k, k < 42 → inF k = 1) : D.length = fb_ct (fun k => decide (nu k ≠ 0)) 42 ∧ fb_sm (fun k => nv (nu k)) 42 = 42 := by
  constructor
  · rw [← h.cnt, ← fb_sm_ind]
    exact fb_sm_cong (fun k hk => by rw [if_neg (by rw [hf k hk]; exact one_n0)])
  · have e : fb_sm (fun k => nv (nu k)) 42 = fb_sm (fun k => if inF k = 0 then 0 else nv (nu k)) 42 := fb_sm_cong (fun k hk => by rw [if_neg (by rw [hf k hk]; exact one_n0)])
    rw [e, h.nums, ← h.size]
    exact fb_ct_all.mpr (fun k hk => decide_eq_true (by rw [hf k hk]; exact one_n0))
theorem FB.open42 (h : FB nu inF fi la D) : frc (Tk inF) + fb_ct (fun k => decide (inF k ≠ 0)) 42 = 42 := by
  have e := fb_ct_not (fun k => decide (inF k ≠ 0)) 42
  have e2 : frc (Tk inF) = fb_ct (fun k => !decide (inF k ≠ 0)) 42 := by
    unfold frc
    exact fb_ct_cong (fun k hk => by rw [tb_Tk hk])
  rw [e2]
  omega
/-- where there is a way, all numbers add up to all cells -/
theorem FB.sum42 (h : FB nu inF fi la D) (hw : WW nu inF (Tk inF) ≠ 0) : fb_sm (fun k => nv (nu k)) 42 = 42 := by
  have e1 := adds_up _ (Tk inF) rfl (inB_Tk inF) hw
  have e2 : isum (fun k => if tb (Tk inF) k = true then 0 else nu k) 42 = nI (fb_sm (fun k => if inF k = 0 then nv (nu k) else 0) 42) := isum_of (fun k hk => by
    rw [tb_Tk hk]
    by_cases q : inF k = 0
    · rw [if_pos q, if_neg (dn0 q)]
      exact (h.1.get hk).1
    · rw [if_neg q, if_pos (decide_eq_true q), nI_0])
  rw [e1] at e2
  have b1 : fb_sm (fun k => if inF k = 0 then nv (nu k) else 0) 42 ≤ 42 * 20 := fb_sm_bound (fun k hk => by
    by_cases q : inF k = 0
    · rw [if_pos q]; exact (h.1.get hk).2
    · rw [if_neg q]; omega)
  have b2 := frc_le (Tk inF)
  have e3 := nI_inj (by omega) (by omega) e2
  have e4 : fb_sm (fun k => nv (nu k)) 42 = fb_sm (fun k => (if inF k = 0 then nv (nu k) else 0) + (if inF k = 0 then 0 else nv (nu k))) 42 := fb_sm_cong (fun k hk => by
    by_cases q : inF k = 0
    · rw [if_pos q, if_pos q, Nat.add_zero]
    · rw [if_neg q, if_neg q, Nat.zero_add])
  have e5 := h.open42
  rw [e4, fb_sm_add, ← e3, h.nums, ← h.size]
  exact e5
/-- rectangles that are possible are drawn -/
theorem FB.append (h : FB nu inF fi la D) {C : List (Nat × Nat)} (hC : ∀ r, r ∈ C → RC r.1 r.2 ∧ OK nu inF r = true) (hp : C.Pairwise DJ) {i' f' l' : Nat → Int32} (hP : PL C inF fi la i' f' l') : FB nu i' f' l' (D ++ C) := by
  refine ⟨h.1, fun r hr => ?_, List.pairwise_append.mpr ⟨h.2.2.1, hp, fun x hx y hy => ?_⟩, fun k hk => ⟨fun r hr hi => ?_, fun hn => ?_⟩⟩
  · rcases List.mem_append.mp hr with h1 | h1
    · exact h.2.1 r h1
    · exact FD_of (hC r h1).1 (hC r h1).2
  · intro k hk e
    have e2 := OKfree (hC y hy).2 hk e.2
    rw [((h.2.2.2 k hk).1 x hx e.1).1] at e2
    exact one_n0 e2
  · rcases List.mem_append.mp hr with h1 | h1
    · obtain ⟨e1, e2, e3⟩ := (h.2.2.2 k hk).1 r h1 hi
      obtain ⟨q1, q2, q3⟩ := (hP k hk).2 (fun x hx => ts_nt (fun e => by
        have e4 := OKfree (hC x hx).2 hk e
        rw [e1] at e4
        exact one_n0 e4))
      exact ⟨q1.trans e1, q2.trans e2, q3.trans e3⟩
    · exact (hP k hk).1 r h1 hi
  · rw [((hP k hk).2 (fun x hx => hn x (List.mem_append_right _ hx))).1]
    exact (h.2.2.2 k hk).2 (fun x hx => hn x (List.mem_append_left _ hx))
theorem FB.clear (h : FB nu inF fi la D) {i' : Nat → Int32} (h1 : ∀ k, k < 42 → i' k = 0) (fi' la' : Nat → Int32) : FB nu i' fi' la' [] :=
  ⟨h.1, fun r hr => (by cases hr), List.Pairwise.nil, fun k hk => ⟨fun r hr => (by cases hr), fun _ => h1 k hk⟩⟩
theorem FB.remove (h : FB nu inF fi la D) {r0 : Nat × Nat} (h0 : r0 ∈ D) {c : Nat} (hc : c < 42) (hi0 : inb r0.1 r0.2 c = true) {i' : Nat → Int32} (h1 : ∀ k, k < 42 → i' k = if fi k = fi c then 0 else inF k) : FB nu i' fi la (D.filter (fun x => decide (x ≠ r0))) := by
  have ec := ((h.2.2.2 c hc).1 r0 h0 hi0).2.1
  refine ⟨h.1, fun r hr => h.2.1 r (List.mem_filter.mp hr).1, h.2.2.1.filter _, fun k hk => ⟨fun r hr hi => ?_, fun hn => ?_⟩⟩
  · obtain ⟨hr1, hr2⟩ := List.mem_filter.mp hr
    have hne : r ≠ r0 := of_decide_eq_true hr2
    obtain ⟨e1, e2, e3⟩ := (h.2.2.2 k hk).1 r hr1 hi
    have h3 := (h.2.1 r hr1).1
    have h4 := (h.2.1 r0 h0).1
    rw [h1 k hk, if_neg (fun e => ?_)]
    · exact ⟨e1, e2, e3⟩
    · rw [e2, ec] at e
      have e5 : r.1 = r0.1 := nI_inj (by have := h3.1; omega) (by have := h4.1; omega) e
      exact dj_all h.2.2.1 hr1 h0 hne r.1 h3.1 ⟨inb_iff.mpr (IN_a h3), by rw [e5]; exact inb_iff.mpr (IN_a h4)⟩
  · rw [h1 k hk]
    by_cases q : fi k = fi c
    · rw [if_pos q]
    · rw [if_neg q]
      refine (h.2.2.2 k hk).2 (fun r hr => ?_)
      by_cases e : r = r0
      · refine ts_nt (fun e2 => q ?_)
        rw [((h.2.2.2 k hk).1 r hr e2).2.1, ec, e]
      · exact hn r (List.mem_filter.mpr ⟨hr, decide_eq_true e⟩)
theorem upd_nv {c v : Nat} (h : NV nu) (hv : v ≤ 20) : NV (upd nu c (nI v)) := fun k hk => by
  by_cases q : k = c
  · rw [q, upd_at]; exact ⟨v, hv, rfl⟩
  · rw [upd_off _ _ q]; exact h k hk
theorem FB.write (h : FB nu inF fi la D) {c v : Nat} (hc : c < 42) (hv : v ≤ 20) (hf : inF c = 0) : FB (upd nu c (nI v)) inF fi la D := by
  refine ⟨upd_nv h.1 hv, fun r hr => ?_, h.2.2.1, h.2.2.2⟩
  obtain ⟨f1, f2, f3⟩ := h.2.1 r hr
  obtain ⟨o1, o2, o3, o4⟩ := FDown (h.2.1 r hr)
  have hcr : ¬ inb r.1 r.2 c = true := fun e => by
    rw [((h.2.2.2 c hc).1 r hr e).1] at hf
    exact one_n0 hf
  have hn : ∀ k, k < 42 → nmb (upd nu c (nI v)) r k = nmb nu r k := fun k hk => by
    unfold nmb
    by_cases q : k = c
    · rw [q, ts_nt hcr, Bool.false_and, Bool.false_and]
    · rw [upd_off _ _ q]
  have ho : own (upd nu c (nI v)) r = own nu r := first_cong hn
  refine ⟨f1, by rw [fb_ct_cong hn]; exact f2, ?_⟩
  rw [ho, upd_off _ _ (fun e => hcr (by rw [← e]; exact o2))]
  exact f3
end FB
