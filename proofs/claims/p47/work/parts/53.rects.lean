/-! THE MATHEMATICS: rectangles that are possible, as lists. Own text. -/
theorem len_snoc {α : Type} (l : List α) (x : α) : (l ++ [x]).length = l.length + 1 := by rw [List.length_append, List.length_singleton]
def EA (a j : Nat) : List (Nat × Nat) := ((List.range j).filter (fun b => decide (a ≤ b) && decide (a % 7 ≤ b % 7))).map (fun b => (a, b))
def EP (n : Nat) : List (Nat × Nat) := (List.range n).flatMap (fun a => EA a 42)
def EE : List (Nat × Nat) := EP 42
theorem EE_len : EE.length = 588 := by decide +kernel
theorem mem_EA {a j : Nat} {r : Nat × Nat} : r ∈ EA a j ↔ r.1 = a ∧ r.2 < j ∧ a ≤ r.2 ∧ a % 7 ≤ r.2 % 7 := by
  unfold EA
  rw [List.mem_map]
  constructor
  · rintro ⟨b, hb, rfl⟩
    rw [List.mem_filter, List.mem_range, Bool.and_eq_true, decide_eq_true_eq, decide_eq_true_eq] at hb
    exact ⟨rfl, hb.1, hb.2.1, hb.2.2⟩
  · rintro ⟨h1, h2, h3, h4⟩
    obtain ⟨x, y⟩ := r
    simp only at h1 h2 h3 h4
    subst h1
    exact ⟨y, by rw [List.mem_filter, List.mem_range, Bool.and_eq_true, decide_eq_true_eq, decide_eq_true_eq]; exact ⟨h2, h3, h4⟩, rfl⟩
theorem mem_EE {r : Nat × Nat} : r ∈ EE ↔ RC r.1 r.2 := by
  unfold EE EP
  rw [List.mem_flatMap]
  constructor
  · rintro ⟨a, ha, hr⟩
    rw [List.mem_range] at ha
    obtain ⟨h1, h2, h3, h4⟩ := mem_EA.mp hr
    unfold RC
    omega
  · intro h
    unfold RC at h
    exact ⟨r.1, List.mem_range.mpr h.1, mem_EA.mpr ⟨rfl, h.2.1, by omega, h.2.2.2⟩⟩
theorem EE_sorted : EE.Pairwise (fun x y => 42 * x.1 + x.2 < 42 * y.1 + y.2) := by
  unfold EE EP
  rw [List.pairwise_flatMap]
  constructor
  · intro a _
    unfold EA
    rw [List.pairwise_map]
    exact (List.pairwise_lt_range.filter _).imp (fun {x y} h => by show 42 * a + x < 42 * a + y; omega)
  · refine List.pairwise_lt_range.imp (fun {a b} h x hx y hy => ?_)
    obtain ⟨h1, h2, -, -⟩ := mem_EA.mp hx
    obtain ⟨h3, h4, -, -⟩ := mem_EA.mp hy
    omega
noncomputable def cs (r : Nat × Nat) : Int64 := cset (inb r.1 r.2)
def sz (r : Nat × Nat) : Nat := fb_ct (inb r.1 r.2) 42
def nmb (nu : Nat → Int32) (r : Nat × Nat) (k : Nat) : Bool := inb r.1 r.2 k && decide (nu k ≠ 0)
def own (nu : Nat → Int32) (r : Nat × Nat) : Nat := fa_first (nmb nu r) 42
def tkn (inF : Nat → Int32) (r : Nat × Nat) (k : Nat) : Bool := inb r.1 r.2 k && decide (inF k ≠ 0)
noncomputable def Tk (inF : Nat → Int32) : Int64 := cset (fun k => decide (inF k ≠ 0))
noncomputable def Nm (nu : Nat → Int32) : Int64 := cset (fun k => decide (nu k ≠ 0))
def OK (nu inF : Nat → Int32) (r : Nat × Nat) : Bool := decide (fb_ct (tkn inF r) 42 = 0) && (decide (fb_ct (nmb nu r) 42 = 1) && decide (nu (own nu r) = nI (sz r)))
theorem OK_iff {nu inF : Nat → Int32} {r : Nat × Nat} : OK nu inF r = true ↔ fb_ct (tkn inF r) 42 = 0 ∧ fb_ct (nmb nu r) 42 = 1 ∧ nu (own nu r) = nI (sz r) := by
  unfold OK
  rw [Bool.and_eq_true, Bool.and_eq_true, decide_eq_true_eq, decide_eq_true_eq, decide_eq_true_eq]
def XL (nu inF : Nat → Int32) : List (Nat × Nat) := EE.filter (OK nu inF)
def key (r : Nat × Nat) : Nat := 6 * r.1 + r.2 / 7
theorem cs_Tk (inF : Nat → Int32) (r : Nat × Nat) : cs r &&& Tk inF = cset (tkn inF r) := cset_and _ _
theorem cs_Nm (nu : Nat → Int32) (r : Nat × Nat) : cs r &&& Nm nu = cset (nmb nu r) := cset_and _ _
theorem bc_cs (r : Nat × Nat) : fJ_bitCount (cs r) = nI (sz r) := bc_cset _
theorem tb_cs {r : Nat × Nat} {k : Nat} (hk : k < 42) : tb (cs r) k = inb r.1 r.2 k := tb_cset' _ hk
theorem sz_le (r : Nat × Nat) : sz r ≤ 42 := fb_ct_le _ _
theorem sz_pos {r : Nat × Nat} (h : RC r.1 r.2) : 0 < sz r := fb_ct_pos.mpr ⟨r.1, h.1, inb_iff.mpr (IN_a h)⟩
/-- what is so of a rectangle that is possible -/
theorem OKown {nu inF : Nat → Int32} {r : Nat × Nat} (h : OK nu inF r = true) : own nu r < 42 ∧ inb r.1 r.2 (own nu r) = true ∧ nu (own nu r) ≠ 0 ∧ ∀ k, k < 42 → inb r.1 r.2 k = true → nu k ≠ 0 → k = own nu r := by
  obtain ⟨-, h2, -⟩ := OK_iff.mp h
  obtain ⟨a, b, c⟩ := ct_one h2
  unfold nmb at b
  rw [Bool.and_eq_true, decide_eq_true_eq] at b
  exact ⟨a, b.1, b.2, fun k hk h1 h2 => c k hk (by unfold nmb; rw [h1, decide_eq_true h2]; rfl)⟩
theorem OKfree {nu inF : Nat → Int32} {r : Nat × Nat} (h : OK nu inF r = true) {k : Nat} (hk : k < 42) (hi : inb r.1 r.2 k = true) : inF k = 0 := by
  obtain ⟨h1, -, -⟩ := OK_iff.mp h
  have := fb_ct_zero.mp h1 k hk
  unfold tkn at this
  rw [hi, Bool.true_and, decide_eq_false_iff_not] at this
  exact Classical.not_not.mp this
theorem mem_XL {nu inF : Nat → Int32} {r : Nat × Nat} : r ∈ XL nu inF ↔ RC r.1 r.2 ∧ OK nu inF r = true := by
  unfold XL
  rw [List.mem_filter, mem_EE]
theorem OKuniq {nu inF : Nat → Int32} {r r' : Nat × Nat} (hr : RC r.1 r.2) (hr' : RC r'.1 r'.2) (h : OK nu inF r = true) (h' : OK nu inF r' = true) (e1 : r.1 = r'.1) (e2 : r.2 / 7 = r'.2 / 7) (h2 : r.2 < r'.2) : False := by
  obtain ⟨a1, a2, a3, -⟩ := OKown h
  obtain ⟨-, -, -, a4⟩ := OKown h'
  have hin : inb r'.1 r'.2 (own nu r) = true := by
    rw [inb_iff] at a2 ⊢
    unfold IN at a2 ⊢
    unfold RC at hr hr'
    omega
  have e := a4 _ a1 hin a3
  have s1 := (OK_iff.mp h).2.2
  have s2 := (OK_iff.mp h').2.2
  rw [← e, s1] at s2
  have e3 := nI_inj (by have := sz_le r; omega) (by have := sz_le r'; omega) s2
  unfold sz at e3
  rw [rect_ct hr, rect_ct hr', e1, e2] at e3
  have e4 := Nat.eq_of_mul_eq_mul_left (by omega) e3
  unfold RC at hr hr'
  omega
theorem XL_sorted (nu inF : Nat → Int32) : (XL nu inF).Pairwise (fun x y => key x < key y) := by
  refine (EE_sorted.filter (OK nu inF)).imp_of_mem (fun {x y} hx hy h => ?_)
  obtain ⟨hx1, hx2⟩ := mem_XL.mp hx
  obtain ⟨hy1, hy2⟩ := mem_XL.mp hy
  unfold key
  have a1 := hx1
  have b1 := hy1
  unfold RC at a1 b1
  by_cases q : x.1 = y.1
  · by_cases q2 : x.2 / 7 = y.2 / 7
    · exact (OKuniq hx1 hy1 hx2 hy2 q q2 (by omega)).elim
    · omega
  · omega
theorem XL_len (nu inF : Nat → Int32) : (XL nu inF).length ≤ 588 := by
  have := List.length_filter_le (OK nu inF) EE
  rw [EE_len] at this
  exact this
def LK (nu inF : Nat → Int32) (k : Nat) : List (Nat × Nat) := (XL nu inF).filter (fun r => decide (own nu r = k))
def MP (nu inF : Nat → Int32) (n : Nat) : List (Nat × Nat) := (List.range n).flatMap (LK nu inF)
def ML (nu inF : Nat → Int32) : List (Nat × Nat) := MP nu inF 42
theorem MP_len (nu inF : Nat → Int32) (n : Nat) : (MP nu inF n).length ≤ 588 := by
  have h := (own_perm (own nu) (XL nu inF) n).length_eq
  have h2 := List.length_filter_le (fun r => decide (own nu r < n)) (XL nu inF)
  have h3 := XL_len nu inF
  unfold MP LK
  omega
theorem ML_perm (nu inF : Nat → Int32) : (ML nu inF).Perm (XL nu inF) := by
  have h := own_perm (own nu) (XL nu inF) 42
  rw [List.filter_eq_self.mpr (fun r hr => decide_eq_true (OKown (mem_XL.mp hr).2).1)] at h
  exact h
theorem mem_ML {nu inF : Nat → Int32} {r : Nat × Nat} : r ∈ ML nu inF ↔ RC r.1 r.2 ∧ OK nu inF r = true := (ML_perm nu inF).mem_iff.trans mem_XL
theorem LK_own (nu inF : Nat → Int32) (k n : Nat) : (LK nu inF n).filter (fun r => decide (own nu r = k)) = if k = n then LK nu inF k else [] := by
  unfold LK
  rw [List.filter_filter]
  by_cases q : k = n
  · subst q
    rw [if_pos rfl]
    exact List.filter_congr (fun x _ => by rw [Bool.and_self])
  · rw [if_neg q]
    refine List.filter_eq_nil_iff.mpr (fun y _ e => ?_)
    rw [Bool.and_eq_true] at e
    have e1 := of_decide_eq_true e.1
    have e2 := of_decide_eq_true e.2
    omega
theorem MP_own (nu inF : Nat → Int32) (k : Nat) : ∀ n, (MP nu inF n).filter (fun r => decide (own nu r = k)) = if k < n then LK nu inF k else []
  | 0 => by rw [if_neg (by omega)]; rfl
  | n + 1 => by
    have e : MP nu inF (n + 1) = MP nu inF n ++ LK nu inF n := by
      unfold MP
      rw [List.range_succ, List.flatMap_append, List.flatMap_singleton]
    rw [e, List.filter_append, MP_own nu inF k n, LK_own]
    by_cases q : k = n
    · subst q
      rw [if_neg (by omega), if_pos rfl, if_pos (by omega), List.nil_append]
    · rw [if_neg q, List.append_nil]
      by_cases q2 : k < n
      · rw [if_pos q2, if_pos (by omega)]
      · rw [if_neg q2, if_neg (by omega)]
theorem ML_own (nu inF : Nat → Int32) {k : Nat} (hk : k < 42) : (ML nu inF).filter (fun r => decide (own nu r = k)) = LK nu inF k := by
  have := MP_own nu inF k 42
  rw [if_pos hk] at this
  exact this
theorem mem_LK {nu inF : Nat → Int32} {r : Nat × Nat} {k : Nat} : r ∈ LK nu inF k ↔ (RC r.1 r.2 ∧ OK nu inF r = true) ∧ own nu r = k := by
  unfold LK
  rw [List.mem_filter, mem_XL, decide_eq_true_eq]
theorem LK_sorted (nu inF : Nat → Int32) (k : Nat) : (LK nu inF k).Pairwise (fun x y => key x < key y) := (XL_sorted nu inF).filter _
/-! the class: every rectangle, then those that are possible -/
theorem cellsOf_e {F : Nat} (hF : 42 < F) {a b : Nat} (ha : a < 42) (hb : b < 42) : fX_cellsOf F (nI a) (nI b) = some (cs (a, b)) := by
  obtain ⟨x, e, h⟩ := cellsOf_s hF ha hb
  rw [e, cset_of h]
  rfl
theorem cellsInFields_e {F : Nat} (hF : 42 < F) (inF : Nat → Int32) : fBoard_cellsInFields F inF = some (Tk inF) := by
  obtain ⟨x, e, h⟩ := cellsInFields_s hF inF
  rw [e, cset_of h]
  rfl
theorem cellsWithNumber_e {F : Nat} (hF : 42 < F) (nu : Nat → Int32) : fBoard_cellsWithNumber F nu = some (Nm nu) := by
  obtain ⟨x, e, h⟩ := cellsWithNumber_s hF nu
  rw [e, cset_of h]
  rfl
theorem openNumbers_e {F : Nat} (hF : 42 < F) (nu inF : Nat → Int32) : fBoard_openNumbers F nu inF = some (cset (fun k => decide (nu k ≠ 0) && !decide (inF k ≠ 0))) := by
  unfold fBoard_openNumbers
  rw [cellsWithNumber_e hF, cellsInFields_e hF, Option.bind_some, Option.bind_some]
  unfold Nm
  rw [and_not]
  exact congrArg some (cset_cong (fun k hk => by unfold Tk; rw [tb_cset' _ hk]))
theorem ge588 {k : Nat} (hk : k < 588) : ¬ (588 : Int32) ≤ nI k := nI_ge (b := 588) hk (by decide)
theorem EP_len (n : Nat) (h : n ≤ 42) : (EP n).length ≤ 588 := by
  have e : EP 42 = EP n ++ (List.range' n (42 - n)).flatMap (fun a => EA a 42) := by
    unfold EP
    rw [← List.flatMap_append]
    congr 1
    rw [List.range_eq_range', List.range_eq_range']
    have := List.range'_append_1 (s := 0) (m := n) (n := 42 - n)
    rw [Nat.zero_add, show n + (42 - n) = 42 by omega] at this
    exact this.symm
  have h1 : (EP 42).length = 588 := EE_len
  rw [e, List.length_append] at h1
  omega
theorem EA_len (a j : Nat) (h : j ≤ 42) : (EA a j).length ≤ (EA a 42).length := by
  unfold EA
  rw [List.length_map, List.length_map]
  have : (List.range j).Sublist (List.range 42) := by
    rw [List.range_sublist]
    exact h
  exact (this.filter _).length_le
theorem EA_in (a j n : Nat) (h : j ≤ 42) (hn : n < 42) (ha : a = n) : (EP n ++ EA a j).length ≤ 588 := by
  subst ha
  have h1 := EP_len (a + 1) (by omega)
  have e : EP (a + 1) = EP a ++ EA a 42 := by
    unfold EP
    rw [List.range_succ, List.flatMap_append, List.flatMap_singleton]
  rw [e, List.length_append] at h1
  rw [List.length_append]
  have := EA_len a j h
  omega
theorem EA_succ (a j : Nat) : EA a (j + 1) = EA a j ++ (if a ≤ j ∧ a % 7 ≤ j % 7 then [(a, j)] else []) := by
  unfold EA
  rw [List.range_succ, List.filter_append, List.map_append]
  by_cases q : a ≤ j ∧ a % 7 ≤ j % 7
  · rw [if_pos q, List.filter_cons_of_pos (by rw [decide_eq_true q.1, decide_eq_true q.2]; rfl)]
    rfl
  · rw [if_neg q, List.filter_cons_of_neg (fun e => q (by rw [Bool.and_eq_true, decide_eq_true_eq, decide_eq_true_eq] at e; exact e))]
    rfl
def EI (l : List (Nat × Nat)) (a : Int32 × (Nat → Int32) × (Nat → Int32) × (Nat → Int64)) : Prop := a.1 = nI l.length ∧ AG l a.2.1 (fun r => nI r.1) ∧ AG l a.2.2.1 (fun r => nI r.2) ∧ AG l a.2.2.2 cs
theorem init_row {F : Nat} (hF : 42 < F) {n : Nat} (hn : n < 42) {a : Int32 × (Nat → Int32) × (Nat → Int32) × (Nat → Int64)} (h : EI (EP n) a) : ∃ a', EI (EP (n + 1)) a' ∧ fRectangles_init_L84 F (nI n) F a.1 (nI n) a.2.1 a.2.2.1 a.2.2.2 = some (a'.1, nI 42, a'.2) := by
  obtain ⟨a', ⟨-, h'⟩, e⟩ := lp 42 (fun N i (a : Int32 × (Nat → Int32) × (Nat → Int32) × (Nat → Int64)) => fRectangles_init_L84 F (nI n) N a.1 (nI i) a.2.1 a.2.2.1 a.2.2.2) (fun a => (a.1, nI 42, a.2)) (fun i a => n ≤ i ∧ EI (EP n ++ EA n i) a)
    (fun i a hi ha => by
      obtain ⟨hni, h1, h2, h3, h4⟩ := ha
      obtain ⟨c, f, l, s⟩ := a
      simp only at h1 h2 h3 h4
      subst h1
      have e1 := ge42 hi
      have hlen := EA_in n (i + 1) n (by omega) hn rfl
      rw [EA_succ] at hlen
      by_cases q : n % 7 ≤ i % 7
      · rw [if_pos ⟨hni, q⟩, ← List.append_assoc, List.length_append, List.length_singleton] at hlen
        have e2 : ¬ (588 : Int32) ≤ nI (EP n ++ EA n i).length := ge588 (by omega)
        have e3 : ¬ nI (i % 7) < nI (n % 7) := nI_nlt q (by omega)
        refine ⟨(nI ((EP n ++ EA n i).length + 1), upd f (EP n ++ EA n i).length (nI n), upd l (EP n ++ EA n i).length (nI i), vp_updL s (EP n ++ EA n i).length (cs (n, i))), ⟨by omega, ?_⟩, fun N => ?_⟩
        · rw [EA_succ, if_pos ⟨hni, q⟩, ← List.append_assoc]
          exact ⟨by rw [len_snoc], h2.pushI (n, i), h3.pushI (n, i), h4.pushJ (n, i)⟩
        · simp only [fRectangles_init_L84, e1, e2, if_false, nI_r7 (show i < 2 ^ 31 by omega), nI_r7 (show n < 2 ^ 31 by omega), e3, o_wrI_s (show (EP n ++ EA n i).length < 588 by omega) (show 588 < 2 ^ 31 by decide), o_wrJ_s (show (EP n ++ EA n i).length < 588 by omega) (show 588 < 2 ^ 31 by decide), cellsOf_e hF hn hi, Option.bind_some, nI_1]
      · have q' : ¬ (n ≤ i ∧ n % 7 ≤ i % 7) := fun e => q e.2
        rw [if_neg q', List.append_nil] at hlen
        have e3 : nI (i % 7) < nI (n % 7) := nI_lt (by omega) (by omega)
        refine ⟨(nI (EP n ++ EA n i).length, f, l, s), ⟨by omega, ?_⟩, fun N => ?_⟩
        · rw [EA_succ, if_neg q', List.append_nil]
          exact ⟨rfl, h2, h3, h4⟩
        · by_cases e2 : (588 : Int32) ≤ nI (EP n ++ EA n i).length
          · have hf : (EP n ++ EA n i).length = 588 := by
              apply Classical.byContradiction
              intro c
              exact ge588 (by omega) e2
            exfalso
            have hm : (n, 41) ∈ EP n ++ EA n i ∨ i ≤ 41 := Or.inr (by omega)
            have hl := EA_in n 42 n (by omega) hn rfl
            have h41 := EA_succ n 41
            have hle : (EA n i).length ≤ (EA n 41).length := by
              unfold EA
              rw [List.length_map, List.length_map]
              have : (List.range i).Sublist (List.range 41) := by
                rw [List.range_sublist]
                omega
              exact (this.filter _).length_le
            rw [if_pos ⟨by omega, by omega⟩] at h41
            rw [h41, List.length_append, List.length_append, List.length_singleton] at hl
            rw [List.length_append] at hf
            omega
          · simp only [fRectangles_init_L84, e1, e2, if_false, nI_r7 (show i < 2 ^ 31 by omega), nI_r7 (show n < 2 ^ 31 by omega), e3, if_true, Option.bind_some, nI_1])
    (fun N a ha => by simp only [fRectangles_init_L84, le42, if_true]) (42 - n) n F a (by omega) (by omega) ⟨Nat.le_refl _, by
      have : EA n n = [] := by
        unfold EA
        rw [List.filter_eq_nil_iff.mpr (fun b hb e => by
          rw [Bool.and_eq_true, decide_eq_true_eq] at e
          have := List.mem_range.mp hb
          omega)]
        rfl
      rw [this, List.append_nil]
      exact h⟩
  refine ⟨a', ?_, e⟩
  have e2 : EP (n + 1) = EP n ++ EA n 42 := by
    unfold EP
    rw [List.range_succ, List.flatMap_append, List.flatMap_singleton]
  rw [e2]
  exact h'
theorem init_s {F : Nat} (hF : 42 < F) (f0 l0 : Nat → Int32) (c0 : Nat → Int64) : ∃ ef el ec, fRectangles_init F f0 l0 c0 = some (ef, el, ec) ∧ AG EE ef (fun r => nI r.1) ∧ AG EE el (fun r => nI r.2) ∧ AG EE ec cs := by
  obtain ⟨a, ⟨h1, h2, h3, h4⟩, e⟩ := lp0 42 hF (fun N i (a : Int32 × (Nat → Int32) × (Nat → Int32) × (Nat → Int64)) => fRectangles_init_L76 F N a.1 (nI i) a.2.1 a.2.2.1 a.2.2.2) (fun a => (a.1, nI 42, a.2)) (fun i a => EI (EP i) a) (a := (0, f0, l0, c0)) ⟨rfl, AG.nil, AG.nil, AG.nil⟩
    (fun i a hi ha => by
      obtain ⟨a', h', e'⟩ := init_row hF hi ha
      refine ⟨a', h', fun N => ?_⟩
      simp only [fRectangles_init_L76, ge42 hi, if_false, e', Option.bind_some, nI_1])
    (fun N a ha => by simp only [fRectangles_init_L76, le42, if_true])
  refine ⟨a.2.1, a.2.2.1, a.2.2.2, ?_, h2, h3, h4⟩
  unfold fRectangles_init
  try rw [nI_0] at e
  rw [e]
  rfl
