/-! THE MATHEMATICS: ways to fill a board, as lists. Own text. -/
def sm {α : Type} (l : List α) (g : α → Nat) : Nat := (l.map g).sum
theorem sm_nil {α : Type} (g : α → Nat) : sm [] g = 0 := rfl
theorem sm_cons {α : Type} (x : α) (l : List α) (g : α → Nat) : sm (x :: l) g = g x + sm l g := by
  unfold sm
  rw [List.map_cons, List.sum_cons]
theorem sm_cong {α : Type} {f g : α → Nat} : ∀ {l : List α}, (∀ x, x ∈ l → f x = g x) → sm l f = sm l g
  | [], _ => rfl
  | x :: t, h => by rw [sm_cons, sm_cons, h x List.mem_cons_self, sm_cong (fun y hy => h y (List.mem_cons_of_mem _ hy))]
theorem sm_add {α : Type} (f g : α → Nat) : ∀ l : List α, sm l (fun x => f x + g x) = sm l f + sm l g
  | [] => rfl
  | x :: t => by rw [sm_cons, sm_cons, sm_cons, sm_add f g t]; omega
theorem sm_zero {α : Type} : ∀ {l : List α} {f : α → Nat}, (∀ x, x ∈ l → f x = 0) → sm l f = 0
  | [], _, _ => rfl
  | x :: t, f, h => by rw [sm_cons, h x List.mem_cons_self, sm_zero (fun y hy => h y (List.mem_cons_of_mem _ hy))]
theorem sm_swap {α β : Type} (f : α → β → Nat) (t : List β) : ∀ l : List α, sm l (fun x => sm t (fun y => f x y)) = sm t (fun y => sm l (fun x => f x y))
  | [] => (sm_zero (fun _ _ => rfl)).symm
  | x :: l => by
    rw [sm_cons, sm_swap f t l, ← sm_add]
    exact sm_cong (fun y _ => (sm_cons x l (fun x => f x y)).symm)
theorem sm_filter {α : Type} (p : α → Bool) (g : α → Nat) : ∀ l : List α, sm (l.filter p) g = sm l (fun x => if p x = true then g x else 0)
  | [] => rfl
  | x :: t => by
    rw [sm_cons, ← sm_filter p g t]
    by_cases q : p x = true
    · rw [List.filter_cons_of_pos q, sm_cons, if_pos q]
    · rw [List.filter_cons_of_neg q, if_neg q, Nat.zero_add]
theorem len_flat {α β : Type} (g : α → List β) : ∀ l : List α, (l.flatMap g).length = sm l (fun x => (g x).length)
  | [] => rfl
  | x :: t => by rw [List.flatMap_cons, List.length_append, len_flat g t, sm_cons]
/-! sets of cells that are covered -/
def frc (cov : Int64) : Nat := fb_ct (fun k => !tb cov k) 42
def lof0 (cov : Int64) : Nat := fa_first (fun k => !tb cov k) 42
def dj (cov : Int64) (r : Nat × Nat) : Bool := decide (fb_ct (fun k => inb r.1 r.2 k && tb cov k) 42 = 0)
theorem dj_iff {cov : Int64} {r : Nat × Nat} : dj cov r = true ↔ ∀ k, k < 42 → inb r.1 r.2 k = true → tb cov k = false := by
  unfold dj
  rw [decide_eq_true_eq, fb_ct_zero]
  constructor
  · intro h k hk hi
    have := h k hk
    rw [hi, Bool.true_and] at this
    exact this
  · intro h k hk
    cases hi : inb r.1 r.2 k with
    | false => rfl
    | true => rw [h k hk hi]; rfl
theorem cs_dj {cov : Int64} {r : Nat × Nat} : (cs r &&& cov) = 0 ↔ dj cov r = true := by
  have e : cs r &&& cov = cset (fun k => inb r.1 r.2 k && tb cov k) := cset_of (fun k => by
    rw [tb_and]
    unfold cs
    rw [tb_cset, Bool.and_assoc])
  rw [e, cset_ct0]
  unfold dj
  rw [decide_eq_true_eq]
theorem tb_oc {cov : Int64} {r : Nat × Nat} {k : Nat} (hk : k < 42) : tb (cov ||| cs r) k = (tb cov k || inb r.1 r.2 k) := by rw [tb_or, tb_cs hk]
theorem inB_or {x y : Int64} (h : inB x) (h2 : inB y) : inB (x ||| y) := fun k hk => by rw [tb_or, h k hk, h2 k hk]; rfl
theorem inB_cs' (r : Nat × Nat) : inB (cs r) := inB_cset _
theorem full_iff {cov : Int64} (h : inB cov) : cov = ALL ↔ frc cov = 0 := by
  unfold frc
  rw [fb_ct_zero]
  constructor
  · intro e k hk
    rw [e, tb_ALL, decide_eq_true hk]
    rfl
  · intro e
    refine tb_eq (fun k => ?_)
    rw [tb_ALL]
    by_cases q : k < 42
    · rw [decide_eq_true q]
      have := e k q
      simpa using this
    · rw [decide_eq_false q]
      exact h k (by omega)
theorem frc_step {cov : Int64} {r : Nat × Nat} (h : dj cov r = true) : frc (cov ||| cs r) + sz r = frc cov := by
  unfold frc sz
  have h' := dj_iff.mp h
  rw [← fb_ct_or (p := fun k => !tb (cov ||| cs r) k) (q := inb r.1 r.2) (fun k hk => by
    rw [tb_oc hk]
    cases tb cov k <;> cases inb r.1 r.2 k <;> simp)]
  exact fb_ct_cong (fun k hk => by
    rw [tb_oc hk]
    have := h' k hk
    cases e : inb r.1 r.2 k with
    | false => simp
    | true => rw [this e]; rfl)
theorem low_free {cov : Int64} (h : frc cov ≠ 0) : lof0 cov < 42 ∧ tb cov (lof0 cov) = false ∧ ∀ j, j < lof0 cov → tb cov j = true := by
  have h1 : lof0 cov < 42 := by
    apply Classical.byContradiction
    intro c
    refine h (fb_ct_zero.mpr (fun k hk => ?_))
    exact fa_first_no (fun k => !tb cov k) 42 k (by unfold lof0 at c; omega)
  refine ⟨h1, ?_, fun j hj => ?_⟩
  · have : (!tb cov (lof0 cov)) = true := fa_first_yes (fun k => !tb cov k) 42 h1
    simpa using this
  · have := fa_first_no (fun k => !tb cov k) 42 j hj
    simpa using this
section W
variable (nu inF : Nat → Int32)
def cnd (cov : Int64) : List (Nat × Nat) := (XL nu inF).filter (fun r => decide (r.1 = lof0 cov) && dj cov r)
noncomputable def fils : Nat → Int64 → List (List (Nat × Nat))
  | 0, cov => if cov = ALL then [[]] else []
  | D + 1, cov => if cov = ALL then [[]] else (cnd nu inF cov).flatMap (fun r => (fils D (cov ||| cs r)).map (fun Z => r :: Z))
noncomputable def FL (cov : Int64) : List (List (Nat × Nat)) := fils nu inF 43 cov
noncomputable def WW (cov : Int64) : Nat := (FL nu inF cov).length
end W
section V
variable {nu inF : Nat → Int32}
theorem mem_cnd {cov : Int64} {r : Nat × Nat} : r ∈ cnd nu inF cov ↔ r ∈ XL nu inF ∧ r.1 = lof0 cov ∧ dj cov r = true := by
  unfold cnd
  rw [List.mem_filter, Bool.and_eq_true, decide_eq_true_eq]
theorem fils_fuel : ∀ (D : Nat) (cov : Int64), inB cov → frc cov ≤ D → fils nu inF (D + 1) cov = fils nu inF D cov
  | 0, cov, hb, h => by
    have e := (full_iff hb).mpr (Nat.le_zero.mp h)
    unfold fils
    rw [if_pos e, if_pos e]
  | D + 1, cov, hb, h => by
    by_cases e : cov = ALL
    · unfold fils
      rw [if_pos e, if_pos e]
    · rw [fils, if_neg e]
      conv => rhs; rw [fils, if_neg e]
      rw [List.flatMap_def, List.flatMap_def]
      refine congrArg List.flatten (List.map_congr_left (fun r hr => ?_))
      obtain ⟨h1, -, h3⟩ := mem_cnd.mp hr
      have h4 := frc_step h3
      have h5 := sz_pos (mem_XL.mp h1).1
      rw [fils_fuel D (cov ||| cs r) (inB_or hb (inB_cs' r)) (by omega)]
theorem frc_le (cov : Int64) : frc cov ≤ 42 := fb_ct_le _ _
theorem FL_full : FL nu inF ALL = [[]] := by
  unfold FL
  rw [fils, if_pos rfl]
theorem FL_rec {cov : Int64} (hb : inB cov) (h : cov ≠ ALL) : FL nu inF cov = (cnd nu inF cov).flatMap (fun r => (FL nu inF (cov ||| cs r)).map (fun Z => r :: Z)) := by
  unfold FL
  conv => lhs; rw [fils, if_neg h]
  rw [List.flatMap_def, List.flatMap_def]
  refine congrArg List.flatten (List.map_congr_left (fun r hr => ?_))
  obtain ⟨h1, -, h3⟩ := mem_cnd.mp hr
  have h4 := frc_step h3
  have h5 := sz_pos (mem_XL.mp h1).1
  have h6 := frc_le cov
  rw [fils_fuel 42 (cov ||| cs r) (inB_or hb (inB_cs' r)) (by omega)]
theorem WW_full : WW nu inF ALL = 1 := by
  unfold WW
  rw [FL_full]
  rfl
/-- the ways, told by the first free cell -/
theorem WW_low {cov : Int64} (hb : inB cov) (h : cov ≠ ALL) : WW nu inF cov = sm (XL nu inF) (fun r => if (inb r.1 r.2 (lof0 cov) && dj cov r) = true then WW nu inF (cov ||| cs r) else 0) := by
  have hf : frc cov ≠ 0 := fun e => h ((full_iff hb).mpr e)
  obtain ⟨g1, g2, g3⟩ := low_free hf
  have e : WW nu inF cov = sm (cnd nu inF cov) (fun r => WW nu inF (cov ||| cs r)) := by
    unfold WW
    rw [FL_rec hb h, len_flat]
    exact sm_cong (fun r _ => List.length_map _)
  rw [e]
  unfold cnd
  rw [sm_filter]
  refine sm_cong (fun r hr => ?_)
  have hrc := (mem_XL.mp hr).1
  have : (decide (r.1 = lof0 cov) && dj cov r) = (inb r.1 r.2 (lof0 cov) && dj cov r) := by
    cases q : dj cov r with
    | false => rw [Bool.and_false, Bool.and_false]
    | true =>
      rw [Bool.and_true, Bool.and_true]
      have q' := dj_iff.mp q
      by_cases e : r.1 = lof0 cov
      · rw [decide_eq_true e, ← e, inb_iff.mpr (IN_a hrc)]
      · rw [decide_eq_false e]
        refine (ts_nt (fun c => e ?_)).symm
        have c1 := inb_iff.mp c
        have c2 := q' r.1 hrc.1 (inb_iff.mpr (IN_a hrc))
        unfold IN at c1
        apply Classical.byContradiction
        intro c3
        rw [g3 r.1 (by omega)] at c2
        cases c2
  rw [this]
theorem dj_or {cov : Int64} {r r' : Nat × Nat} : dj (cov ||| cs r) r' = true ↔ dj cov r' = true ∧ ∀ k, k < 42 → inb r'.1 r'.2 k = true → inb r.1 r.2 k = false := by
  rw [dj_iff, dj_iff]
  constructor
  · intro h
    refine ⟨fun k hk hi => ?_, fun k hk hi => ?_⟩ <;> (have := h k hk hi; rw [tb_oc hk, Bool.or_eq_false_iff] at this)
    · exact this.1
    · exact this.2
  · rintro ⟨h1, h2⟩ k hk hi
    rw [tb_oc hk, h1 k hk hi, h2 k hk hi]
    rfl
/-- the ways, told by any free cell -/
theorem WW_any : ∀ (n : Nat) (cov : Int64), frc cov = n → inB cov → ∀ c, c < 42 → tb cov c = false → WW nu inF cov = sm (XL nu inF) (fun r => if (inb r.1 r.2 c && dj cov r) = true then WW nu inF (cov ||| cs r) else 0) := by
  intro n
  induction n using Nat.strongRecOn with
  | _ n ih =>
    intro cov hn hb c hc hfree
    have hne : cov ≠ ALL := fun e => by
      rw [e, tb_ALL, decide_eq_true hc] at hfree
      cases hfree
    have hf : frc cov ≠ 0 := fun e => hne ((full_iff hb).mpr e)
    obtain ⟨g1, g2, g3⟩ := low_free hf
    rw [WW_low hb hne]
    generalize lof0 cov = z at g1 g2 g3
    have step : ∀ (x y : Nat), x < 42 → tb cov x = false → y < 42 → tb cov y = false → sm (XL nu inF) (fun r => if (inb r.1 r.2 x && dj cov r) = true then WW nu inF (cov ||| cs r) else 0) = sm (XL nu inF) (fun r => if (inb r.1 r.2 x && (inb r.1 r.2 y && dj cov r)) = true then WW nu inF (cov ||| cs r) else 0) + sm (XL nu inF) (fun r => sm (XL nu inF) (fun r' => if (inb r.1 r.2 x && (inb r'.1 r'.2 y && (dj cov r && dj (cov ||| cs r) r'))) = true then WW nu inF ((cov ||| cs r) ||| cs r') else 0)) := by
      intro x y hx hfx hy hfy
      rw [← sm_add]
      refine sm_cong (fun r hr => ?_)
      cases e1 : inb r.1 r.2 x with
      | false =>
        simp only [Bool.false_and, Bool.false_eq_true, if_false, Nat.zero_add]
        exact (sm_zero (fun _ _ => rfl)).symm
      | true =>
        cases e2 : dj cov r with
        | false =>
          simp only [Bool.and_false, Bool.false_and, Bool.false_eq_true, if_false, Nat.zero_add]
          exact (sm_zero (fun _ _ => rfl)).symm
        | true =>
          cases e3 : inb r.1 r.2 y with
          | true =>
            simp only [Bool.and_self, if_true]
            have : sm (XL nu inF) (fun r' => if (true && (inb r'.1 r'.2 y && (true && dj (cov ||| cs r) r'))) = true then WW nu inF ((cov ||| cs r) ||| cs r') else 0) = 0 := sm_zero (fun r' _ => by
              rw [if_neg]
              intro e
              rw [Bool.true_and, Bool.true_and, Bool.and_eq_true] at e
              have := (dj_or.mp e.2).2 y hy e.1
              rw [e3] at this
              cases this)
            rw [this]
            rfl
          | false =>
            have hlt := frc_step e2
            have hpos := sz_pos (mem_XL.mp hr).1
            rw [ih _ (by omega) (cov ||| cs r) rfl (inB_or hb (inB_cs' r)) y hy (by rw [tb_oc hy, hfy, e3]; rfl)]
            simp only [Bool.and_self, if_true, Bool.false_and, Bool.and_false, Bool.false_eq_true, if_false, Nat.zero_add, Bool.true_and]
    rw [step z c g1 g2 hc hfree, step c z hc hfree g1 g2, sm_swap]
    congr 1
    · refine sm_cong (fun r _ => ?_)
      have : (inb r.1 r.2 z && (inb r.1 r.2 c && dj cov r)) = (inb r.1 r.2 c && (inb r.1 r.2 z && dj cov r)) := by
        cases inb r.1 r.2 z <;> cases inb r.1 r.2 c <;> rfl
      rw [this]
    · refine sm_cong (fun r' _ => sm_cong (fun r _ => ?_))
      have e1 : (inb r.1 r.2 z && (inb r'.1 r'.2 c && (dj cov r && dj (cov ||| cs r) r'))) = (inb r'.1 r'.2 c && (inb r.1 r.2 z && (dj cov r' && dj (cov ||| cs r') r))) := by
        have e2 : (dj cov r && dj (cov ||| cs r) r') = (dj cov r' && dj (cov ||| cs r') r) := by
          rw [Bool.eq_iff_iff, Bool.and_eq_true, Bool.and_eq_true, dj_or, dj_or]
          constructor
          · rintro ⟨h1, h2, h3⟩
            exact ⟨h2, h1, fun k hk e => ts_nt (fun e' => by rw [h3 k hk e'] at e; cases e)⟩
          · rintro ⟨h1, h2, h3⟩
            exact ⟨h2, h1, fun k hk e => ts_nt (fun e' => by rw [h3 k hk e'] at e; cases e)⟩
        rw [e2]
        cases inb r.1 r.2 z <;> cases inb r'.1 r'.2 c <;> rfl
      have e3 : (cov ||| cs r) ||| cs r' = (cov ||| cs r') ||| cs r := tb_eq (fun k => by
        rw [tb_or, tb_or, tb_or, tb_or]
        cases tb cov k <;> cases tb (cs r) k <;> cases tb (cs r') k <;> rfl)
      rw [e1, e3]
/-- no way, where a free cell is out of reach -/
theorem WW_none {cov : Int64} (hb : inB cov) {c : Nat} (hc : c < 42) (hf : tb cov c = false) (h : ∀ r, r ∈ XL nu inF → inb r.1 r.2 c = true → dj cov r = false) : WW nu inF cov = 0 := by
  rw [WW_any _ cov rfl hb c hc hf]
  exact sm_zero (fun r hr => by
    rw [if_neg]
    intro e
    rw [Bool.and_eq_true] at e
    rw [h r hr e.1] at e
    cases e.2)
/-- the ways, told by a number that is not covered -/
theorem WW_num {cov : Int64} (hb : inB cov) {c : Nat} (hc : c < 42) (hf : tb cov c = false) (hnu : nu c ≠ 0) : WW nu inF cov = sm (XL nu inF) (fun r => if (decide (own nu r = c) && dj cov r) = true then WW nu inF (cov ||| cs r) else 0) := by
  rw [WW_any _ cov rfl hb c hc hf]
  refine sm_cong (fun r hr => ?_)
  obtain ⟨o1, o2, o3, o4⟩ := OKown (mem_XL.mp hr).2
  have : inb r.1 r.2 c = decide (own nu r = c) := by
    by_cases e : own nu r = c
    · rw [decide_eq_true e, ← e]; exact o2
    · rw [decide_eq_false e]
      exact ts_nt (fun h => e (o4 c hc h hnu).symm)
  rw [this]
theorem isum_add (f g : Nat → Int32) : ∀ n, isum (fun k => f k + g k) n = isum f n + isum g n
  | 0 => rfl
  | n + 1 => by
    show isum _ n + (f n + g n) = (isum f n + f n) + (isum g n + g n)
    rw [isum_add f g n, Int32.add_assoc, Int32.add_assoc]
    congr 1
    rw [← Int32.add_assoc, ← Int32.add_assoc, Int32.add_comm (isum g n)]
theorem isum_one (v : Int32) {o : Nat} : ∀ n, isum (fun k => if k = o then v else 0) n = if o < n then v else 0
  | 0 => by rw [if_neg (by omega)]; rfl
  | n + 1 => by
    show isum _ n + (if n = o then v else 0) = _
    rw [isum_one v n]
    by_cases q : n = o
    · subst q
      rw [if_neg (by omega), if_pos rfl, if_pos (by omega), Int32.zero_add]
    · rw [if_neg q, Int32.add_zero]
      by_cases q2 : o < n
      · rw [if_pos q2, if_pos (by omega)]
      · rw [if_neg q2, if_neg (by omega)]
/-- where there is a way, the numbers add up -/
theorem adds_up : ∀ (n : Nat) (cov : Int64), frc cov = n → inB cov → WW nu inF cov ≠ 0 → isum (fun k => if tb cov k = true then 0 else nu k) 42 = nI (frc cov) := by
  intro n
  induction n using Nat.strongRecOn with
  | _ n ih =>
    intro cov hn hb hw
    by_cases e : cov = ALL
    · rw [(full_iff hb).mp e]
      have : isum (fun k => if tb cov k = true then 0 else nu k) 42 = isum (fun _ => 0) 42 := isum_cong (fun k hk => by
        rw [e, tb_ALL, decide_eq_true hk, if_pos rfl])
      rw [this]
      rfl
    · rw [WW_low hb e] at hw
      have hex : ∃ r, r ∈ XL nu inF ∧ (inb r.1 r.2 (lof0 cov) && dj cov r) = true ∧ WW nu inF (cov ||| cs r) ≠ 0 := by
        apply Classical.byContradiction
        intro c
        refine hw (sm_zero (fun r hr => ?_))
        by_cases q : (inb r.1 r.2 (lof0 cov) && dj cov r) = true
        · rw [if_pos q]
          apply Classical.byContradiction
          intro c2
          exact c ⟨r, hr, q, c2⟩
        · rw [if_neg q]
      obtain ⟨r, hr, hd, hwr⟩ := hex
      rw [Bool.and_eq_true] at hd
      have hstep := frc_step hd.2
      have hpos := sz_pos (mem_XL.mp hr).1
      obtain ⟨o1, o2, o3, o4⟩ := OKown (mem_XL.mp hr).2
      have hsz := (OK_iff.mp (mem_XL.mp hr).2).2.2
      have h1 := ih _ (by omega) (cov ||| cs r) rfl (inB_or hb (inB_cs' r)) hwr
      have h2 : isum (fun k => if tb cov k = true then 0 else nu k) 42 = isum (fun k => (if tb (cov ||| cs r) k = true then 0 else nu k) + (if k = own nu r then nI (sz r) else 0)) 42 := isum_cong (fun k hk => by
        rw [tb_oc hk]
        by_cases q : k = own nu r
        · rw [if_pos q, q, (dj_iff.mp hd.2) _ o1 o2, o2]
          simp [hsz]
        · rw [if_neg q, Int32.add_zero]
          cases hi : inb r.1 r.2 k with
          | false => rw [Bool.or_false]
          | true =>
            rw [(dj_iff.mp hd.2) k hk hi]
            have : nu k = 0 := Classical.byContradiction (fun c => q (o4 k hk hi c))
            simp [this])
      rw [h2, isum_add, h1, isum_one, if_pos o1, nI_add, hstep]
end V
