/-! THE MATHEMATICS: the rounds of the reference, and of both to their end. Own text. -/
section G
variable {F : Nat} {nu inF : Nat → Int32} {Lf : Nat × Nat → Bool} {m : Int32 × (Nat → Int64) × (Nat → Int32) × (Nat → Int32) × (Nat → Int32)}
def LM (l : List (Nat × Nat)) (Lf : Nat × Nat → Bool) (over : Nat → Int32) : Prop := AG l over (fun r => bI (!Lf r))
theorem M_tells (hF : 588 < F) (hm : MI nu (ML nu inF) m) {over : Nat → Int32} (hl : LM (ML nu inF) Lf over) (a0 s0 : Nat → Int64) : ∃ a1 s1, (∀ k, k < 42 → s1 k = cset (Sm nu (XL nu inF) Lf k) ∧ a1 k = cset (Al nu (XL nu inF) Lf k)) ∧ fM_tellsNumbers F a0 s0 m.1 over m.2.2.1 m.2.1 = some (a1, s1) := by
  obtain ⟨h1, h2, h3, h4, h5⟩ := hm
  have hlen := ML_len nu inF
  obtain ⟨p, hp, ep⟩ := lp0 (F := F) 42 (by omega) (fun N i (p : (Nat → Int64) × (Nat → Int64)) => fM_tellsNumbers_L2 F N (nI i) p.1 p.2) (fun p => (nI 42, p)) (fun i p => ∀ k, k < i → p.1 k = ALL ∧ p.2 k = 0) (a := (a0, s0)) (fun k hk => by omega)
    (fun i p hi hp => by
      refine ⟨(vp_updL p.1 i ALL, vp_updL p.2 i 0), fun k hk => ?_, fun N => ?_⟩
      · by_cases q : k = i
        · subst q; exact ⟨updL_at _ _ _, updL_at _ _ _⟩
        · have := hp k (by omega)
          exact ⟨(updL_off _ _ q).trans this.1, (updL_off _ _ q).trans this.2⟩
      · simp only [fM_tellsNumbers_L2, ge42 hi, if_false, o_wrJ_s hi (show 42 < 2 ^ 31 by decide), Option.bind_some, nI_1]
        rfl)
    (fun N p hp => by simp only [fM_tellsNumbers_L2, le42, if_true])
  obtain ⟨q, hq, eq⟩ := lpl (F := F) (ML nu inF) (by omega) (fun N i (p : (Nat → Int64) × (Nat → Int64)) => fM_tellsNumbers_L32 F (nI (ML nu inF).length) over m.2.2.1 m.2.1 N (nI i) p.1 p.2) (fun p => (nI (ML nu inF).length, p)) (fun l p => ∀ k, k < 42 → p.1 k = cset (Al nu l Lf k) ∧ p.2 k = cset (Sm nu l Lf k)) (a := p)
    (fun k hk => by
      obtain ⟨g1, g2⟩ := hp k hk
      rw [g1, g2, ALL_cs]
      exact ⟨rfl, ((cset_0 _).mpr (fun _ _ => rfl)).symm⟩)
    (fun i r p hr hi hp => by
      have e1 : ¬ nI (ML nu inF).length ≤ nI i := nI_ge hi (by omega)
      obtain ⟨-, hi2, -, ho, -, -⟩ := ML_get hr
      have e2 : o_rd 1200 over (nI i) = some (bI (!Lf r)) := by rw [o_rd_s (by omega) (by decide), hl i r hr]
      have e3 : o_rd 1200 m.2.2.1 (nI i) = some (nI (own nu r)) := by rw [o_rd_s (by omega) (by decide), h3 i r hr]
      have e4 : o_rd 1200 m.2.1 (nI i) = some (cs r) := by rw [o_rd_s (by omega) (by decide), h2 i r hr]
      generalize hown : own nu r = o at ho e3
      by_cases q : Lf r = true
      · refine ⟨(vp_updL p.1 o (p.1 o &&& cs r), vp_updL p.2 o (p.2 o ||| cs r)), fun k hk => ?_, fun N => ?_⟩
        · by_cases q2 : k = o
          · subst q2
            obtain ⟨g1, g2⟩ := hp _ hk
            constructor
            · show vp_updL p.1 k (p.1 k &&& cs r) k = _
              rw [updL_at, g1]
              unfold cs
              rw [cset_and]
              exact cset_cong (fun j _ => by
                rw [Al_snoc, q, hown, decide_eq_true (rfl : k = k)]; rfl)
            · show vp_updL p.2 k (p.2 k ||| cs r) k = _
              rw [updL_at, g2]
              unfold cs
              rw [cset_or]
              exact cset_cong (fun j _ => by
                rw [Sm_snoc, q, hown, decide_eq_true (rfl : k = k)]; rfl)
          · obtain ⟨g1, g2⟩ := hp k hk
            constructor
            · show vp_updL p.1 o (p.1 o &&& cs r) k = _
              rw [updL_off _ _ q2, g1]
              exact cset_cong (fun j _ => by
                rw [Al_snoc, hown, decide_eq_false (fun e => q2 e.symm)]; simp)
            · show vp_updL p.2 o (p.2 o ||| cs r) k = _
              rw [updL_off _ _ q2, g2]
              exact cset_cong (fun j _ => by
                rw [Sm_snoc, hown, decide_eq_false (fun e => q2 e.symm)]; simp)
        · simp only [fM_tellsNumbers_L32, e1, if_false, e2, e3, e4, q, Bool.not_true, bI_f, Option.bind_some, not_true_eq_false, o_rd_s ho (show 42 < 2 ^ 31 by decide), o_wrJ_s ho (show 42 < 2 ^ 31 by decide), nI_1]
      · refine ⟨p, fun k hk => ?_, fun N => ?_⟩
        · obtain ⟨g1, g2⟩ := hp k hk
          refine ⟨g1.trans (cset_cong (fun j _ => ?_)), g2.trans (cset_cong (fun j _ => ?_))⟩
          · rw [Al_snoc, ts_nt q]; simp
          · rw [Sm_snoc, ts_nt q]; simp
        · simp only [fM_tellsNumbers_L32, e1, if_false, e2, ts_nt q, Bool.not_false, bI_t, Option.bind_some, show ¬ (1 : Int32) = 0 by decide, not_false_eq_true, if_true, nI_1])
    (fun N p hp => by simp only [fM_tellsNumbers_L32, Int32.le_refl, if_true])
  refine ⟨q.1, q.2, fun k hk => ?_, ?_⟩
  · obtain ⟨g1, g2⟩ := hq k hk
    exact ⟨g2.trans (cset_cong (fun j _ => Sm_perm (ML_perm nu inF) Lf k j)), g1.trans (cset_cong (fun j _ => Al_perm (ML_perm nu inF) Lf k j))⟩
  · unfold fM_tellsNumbers
    try rw [nI_0] at ep
    try rw [nI_0] at eq
    rw [h1, ep, Option.bind_some, eq]
    rfl
theorem M_isOut (hF : 588 < F) (hm : MI nu (ML nu inF) m) {s1 a1 : Nat → Int64} (hs : ∀ k, k < 42 → s1 k = cset (Sm nu (XL nu inF) Lf k) ∧ a1 k = cset (Al nu (XL nu inF) Lf k)) {i : Nat} {r : Nat × Nat} (hr : (ML nu inF)[i]? = some r) : ∃ z, fM_isOut F (nI i) m.2.2.1 s1 a1 m.2.1 = some z ∧ z = bI (outb nu (XL nu inF) Lf r) := by
  obtain ⟨h1, h2, h3, h4, h5⟩ := hm
  obtain ⟨-, hi2, -, ho, -, -⟩ := ML_get hr
  have e3 : o_rd 1200 m.2.2.1 (nI i) = some (nI (own nu r)) := by rw [o_rd_s (by omega) (by decide), h3 i r hr]
  have e4 : o_rd 1200 m.2.1 (nI i) = some (cs r) := by rw [o_rd_s (by omega) (by decide), h2 i r hr]
  obtain ⟨x, ⟨hx1, hx2⟩, e⟩ := lp0 (F := F) 42 (by omega) (fun N j (x : Int64 × Int32) => fM_isOut_L8 F (nI i) m.2.2.1 s1 a1 m.2.1 N x.1 x.2 (nI j)) (fun x => (x.1, x.2, nI 42)) (fun n x => x.1 = cset (fun j => decide (0 < fb_ct (fun k => decide (k ≠ own nu r) && Sm nu (XL nu inF) Lf k j) n)) ∧ x.2 = bI (decide (0 < fb_ct (fun k => decide (k ≠ own nu r) && (decide (¬ cset (Sm nu (XL nu inF) Lf k) = 0) && decide (¬ (cset (Al nu (XL nu inF) Lf k) &&& cs r) = 0))) n))) (a := (0, 0)) ⟨((cset_0 _).mpr (fun k _ => rfl)).symm, rfl⟩
    (fun k x hk hx => by
      obtain ⟨x1, x2⟩ := x
      obtain ⟨g1, g2⟩ := hx
      simp only at g1 g2
      subst g1
      subst g2
      have e5 : o_rd 42 s1 (nI k) = some (cset (Sm nu (XL nu inF) Lf k)) := by rw [o_rd_s hk (by decide), (hs k hk).1]
      have e6 : o_rd 42 a1 (nI k) = some (cset (Al nu (XL nu inF) Lf k)) := by rw [o_rd_s hk (by decide), (hs k hk).2]
      by_cases q : k = own nu r
      · refine ⟨(cset (fun j => decide (0 < fb_ct (fun k => decide (k ≠ own nu r) && Sm nu (XL nu inF) Lf k j) k)), bI (decide (0 < fb_ct (fun k => decide (k ≠ own nu r) && (decide (¬ cset (Sm nu (XL nu inF) Lf k) = 0) && decide (¬ (cset (Al nu (XL nu inF) Lf k) &&& cs r) = 0))) k))), ⟨?_, ?_⟩, fun N => ?_⟩
        · refine cset_cong (fun j _ => ?_)
          rw [fb_ct_succ, decide_eq_false (not_not_intro q)]
          simp
        · show bI _ = bI _
          rw [fb_ct_succ, decide_eq_false (not_not_intro q)]
          simp
        · have e3' : o_rd 1200 m.2.2.1 (nI i) = some (nI k) := by rw [e3, q]
          simp only [fM_isOut_L8, ge42 hk, if_false, e3', Option.bind_some, if_true, nI_1]
      · have q2 : ¬ nI k = nI (own nu r) := fun e => q (nI_inj (by omega) (by omega) e)
        refine ⟨(cset (fun j => decide (0 < fb_ct (fun k => decide (k ≠ own nu r) && Sm nu (XL nu inF) Lf k j) k)) ||| cset (Sm nu (XL nu inF) Lf k), bI (decide (0 < fb_ct (fun k => decide (k ≠ own nu r) && (decide (¬ cset (Sm nu (XL nu inF) Lf k) = 0) && decide (¬ (cset (Al nu (XL nu inF) Lf k) &&& cs r) = 0))) (k + 1)))), ⟨?_, ?_⟩, fun N => ?_⟩
        · show cset _ ||| cset _ = _
          rw [cset_or]
          refine cset_cong (fun j _ => ?_)
          rw [fb_ct_succ, decide_eq_true q]
          cases Sm nu (XL nu inF) Lf k j <;> simp
        · rfl
        · have hb : ∀ n c, decide (0 < n + (if (decide (k ≠ own nu r) && c) = true then 1 else 0)) = (decide (0 < n) || c) := fun n c => by
            rw [decide_eq_true q]
            cases c <;> simp
          have hb2 := hb (fb_ct (fun k => decide (k ≠ own nu r) && (decide (¬ cset (Sm nu (XL nu inF) Lf k) = 0) && decide (¬ (cset (Al nu (XL nu inF) Lf k) &&& cs r) = 0))) k) (decide (¬ cset (Sm nu (XL nu inF) Lf k) = 0) && decide (¬ (cset (Al nu (XL nu inF) Lf k) &&& cs r) = 0))
          rw [fb_ct_succ, hb2]
          generalize decide (0 < fb_ct (fun k => decide (k ≠ own nu r) && (decide (¬ cset (Sm nu (XL nu inF) Lf k) = 0) && decide (¬ (cset (Al nu (XL nu inF) Lf k) &&& cs r) = 0))) k) = b
          cases b with
          | true => simp only [fM_isOut_L8, ge42 hk, if_false, e3, e5, Option.bind_some, q2, bI_t, show ¬ (1 : Int32) = 0 by decide, not_false_eq_true, if_true, Bool.true_or, nI_1]
          | false =>
            by_cases q3 : cset (Sm nu (XL nu inF) Lf k) = 0
            · simp only [fM_isOut_L8, ge42 hk, if_false, e3, e5, Option.bind_some, q2, bI_f, not_true_eq_false, q3, if_true, Bool.false_or, decide_false, Bool.false_and, nI_1]
            · by_cases q4 : (cset (Al nu (XL nu inF) Lf k) &&& cs r) = 0
              · simp only [fM_isOut_L8, ge42 hk, if_false, e3, e4, e5, e6, Option.bind_some, q2, bI_f, not_true_eq_false, q3, q4, if_true, Bool.false_or, not_false_eq_true, decide_false, decide_true, Bool.true_and, nI_1]
              · simp only [fM_isOut_L8, ge42 hk, if_false, e3, e4, e5, e6, Option.bind_some, q2, bI_f, not_true_eq_false, q3, q4, if_true, Bool.false_or, not_false_eq_true, decide_true, Bool.true_and, bI_t, nI_1])
    (fun N x hx => by simp only [fM_isOut_L8, le42, if_true])
  have k2 : (decide (0 < fb_ct (fun k => decide (k ≠ own nu r) && (decide (¬ cset (Sm nu (XL nu inF) Lf k) = 0) && decide (¬ (cset (Al nu (XL nu inF) Lf k) &&& cs r) = 0))) 42) = true) ↔ ∃ k, k < 42 ∧ k ≠ own nu r ∧ (∃ j, j < 42 ∧ Sm nu (XL nu inF) Lf k j = true) ∧ ∃ j, j < 42 ∧ inb r.1 r.2 j = true ∧ Al nu (XL nu inF) Lf k j = true := by
    rw [decide_eq_true_eq, fb_ct_pos]
    unfold cs
    constructor
    · rintro ⟨k, hk, e⟩
      rw [Bool.and_eq_true, Bool.and_eq_true, decide_eq_true_eq, decide_eq_true_eq, decide_eq_true_eq, cset_and, cset_n0, cset_n0] at e
      obtain ⟨g1, g2, j, hj, g3⟩ := e
      rw [Bool.and_eq_true] at g3
      exact ⟨k, hk, g1, g2, j, hj, g3.2, g3.1⟩
    · rintro ⟨k, hk, g1, g2, j, hj, g3, g4⟩
      refine ⟨k, hk, ?_⟩
      rw [Bool.and_eq_true, Bool.and_eq_true, decide_eq_true_eq, decide_eq_true_eq, decide_eq_true_eq, cset_and, cset_n0, cset_n0]
      exact ⟨g1, g2, j, hj, by rw [g3, g4]; rfl⟩
  have k1 : ((cset (Sm nu (XL nu inF) Lf (own nu r)) &&& (x.1 ^^^ (-1))) &&& (cs r ^^^ (-1))) = 0 ↔ ¬ ∃ j, j < 42 ∧ Sm nu (XL nu inF) Lf (own nu r) j = true ∧ inb r.1 r.2 j = false ∧ ∀ k, k < 42 → k ≠ own nu r → Sm nu (XL nu inF) Lf k j = false := by
    rw [hx1, and_not, and_not, cset_0]
    constructor
    · rintro h ⟨j, hj, g1, g2, g3⟩
      have := h j hj
      have g4 : fb_ct (fun k => decide (k ≠ own nu r) && Sm nu (XL nu inF) Lf k j) 42 = 0 := fb_ct_zero.mpr (fun k hk => by
        by_cases q : k = own nu r
        · rw [decide_eq_false (not_not_intro q)]; rfl
        · rw [g3 k hk q, Bool.and_false])
      rw [g1, tb_cs hj, g2, tb_cset' _ hj, g4] at this
      cases this
    · intro h j hj
      apply Classical.byContradiction
      intro c
      have c := ts_nf c
      rw [Bool.and_eq_true, Bool.and_eq_true, Bool.not_eq_true', Bool.not_eq_true', tb_cs hj, tb_cset' _ hj] at c
      obtain ⟨⟨c1, c2⟩, c3⟩ := c
      refine h ⟨j, hj, c1, c3, fun k hk q => ?_⟩
      have c4 := of_decide_eq_false c2
      have := fb_ct_zero.mp (Nat.eq_zero_of_not_pos c4) k hk
      rw [decide_eq_true q, Bool.true_and] at this
      exact this
  have e7 : o_rd 42 s1 (nI (own nu r)) = some (cset (Sm nu (XL nu inF) Lf (own nu r))) := by rw [o_rd_s ho (by decide), (hs _ ho).1]
  unfold fM_isOut
  rw []
  rw [show (fM_isOut_L8 F (nI i) m.2.2.1 s1 a1 m.2.1 F 0 0 0) = some (x.1, x.2, nI 42) from e, Option.bind_some]
  simp only [hx2]
  by_cases q2 : ∃ k, k < 42 ∧ k ≠ own nu r ∧ (∃ j, j < 42 ∧ Sm nu (XL nu inF) Lf k j = true) ∧ ∃ j, j < 42 ∧ inb r.1 r.2 j = true ∧ Al nu (XL nu inF) Lf k j = true
  · have hout : outb nu (XL nu inF) Lf r = true := outb_iff.mpr (Or.inr q2)
    rw [k2.mpr q2, hout, if_pos (by decide)]
    exact ⟨1, rfl, rfl⟩
  · have hf := ts_nt (fun e => q2 (k2.mp e))
    rw [hf, if_neg (by decide), e3, Option.bind_some, e7, Option.bind_some, e4, Option.bind_some]
    by_cases q1 : ∃ j, j < 42 ∧ Sm nu (XL nu inF) Lf (own nu r) j = true ∧ inb r.1 r.2 j = false ∧ ∀ k, k < 42 → k ≠ own nu r → Sm nu (XL nu inF) Lf k j = false
    · have hout : outb nu (XL nu inF) Lf r = true := outb_iff.mpr (Or.inl q1)
      rw [if_neg (fun e => k1.mp e q1), hout]
      exact ⟨1, rfl, rfl⟩
    · have hout : outb nu (XL nu inF) Lf r = false := ts_nt (fun e => by
        rcases outb_iff.mp e with h | h
        · exact q1 h
        · exact q2 h)
      rw [if_pos (k1.mpr q1), hout]
      exact ⟨0, rfl, rfl⟩
theorem M_round (hF : 588 < F) (hm : MI nu (ML nu inF) m) {over : Nat → Int32} (hl : LM (ML nu inF) Lf over) (a0 s0 : Nat → Int64) (ru0 : Nat → Int32) (rd0 : Int32) : ∃ a1 s1 over' ru', (∀ k, k < 42 → s1 k = cset (Sm nu (XL nu inF) Lf k)) ∧ LM (ML nu inF) (nxt nu (XL nu inF) Lf) over' ∧ ∀ N, fM_rules_L34 F m.1 m.2.1 m.2.2.1 (N + 1) 1 a0 s0 over ru0 rd0 = fM_rules_L34 F m.1 m.2.1 m.2.2.1 N (bI (mor nu (XL nu inF) Lf (XL nu inF))) a1 s1 over' ru' (rd0 + bI (mor nu (XL nu inF) Lf (XL nu inF))) := by
  obtain ⟨a1, s1, hs, e0⟩ := M_tells hF hm hl a0 s0
  have hout := fun {i r} (hr : (ML nu inF)[i]? = some r) => M_isOut hF hm hs hr
  have hlen := ML_len nu inF
  have hm1 := hm.1
  obtain ⟨x, ⟨hx1, hx2⟩, e1⟩ := lpl (F := F) (ML nu inF) (by omega) (fun N i (x : Int32 × (Nat → Int32)) => fM_rules_L46 F (nI (ML nu inF).length) m.2.1 m.2.2.1 over a1 s1 N x.1 (nI i) x.2) (fun x => (x.1, nI (ML nu inF).length, x.2)) (fun l x => x.1 = bI (mor nu (XL nu inF) Lf l) ∧ AG l x.2 (fun r => bI (Lf r && outb nu (XL nu inF) Lf r))) (a := ((0 : Int32), ru0)) ⟨rfl, AG.nil⟩
    (fun i r x hr hi hx => by
      obtain ⟨c, ru⟩ := x
      obtain ⟨g1, g2⟩ := hx
      simp only at g1 g2
      subst g1
      obtain ⟨-, hi2, -, ho, -, -⟩ := ML_get hr
      have e1 : ¬ nI (ML nu inF).length ≤ nI i := nI_ge hi (by omega)
      have e2 : o_rd 1200 over (nI i) = some (bI (!Lf r)) := by rw [o_rd_s (by omega) (by decide), hl i r hr]
      obtain ⟨z, e3, hz⟩ := hout hr
      subst hz
      have hln : ((ML nu inF).take i).length = i := by rw [List.length_take]; omega
      refine ⟨(bI (mor nu (XL nu inF) Lf ((ML nu inF).take i ++ [r])), upd ru i (bI (Lf r && outb nu (XL nu inF) Lf r))), ⟨rfl, ?_⟩, fun N => ?_⟩
      · have := g2.pushI r
        rw [hln] at this
        exact this
      · have e5 : ∀ b : Bool, o_wrZ 1200 ru (nI i) (bI b) = some (upd ru i (bI b)) := fun b => o_wrZ_b (by omega) (by decide)
        have e6 : ∀ b : Bool, o_rd 1200 (upd ru i (bI b)) (nI i) = some (bI b) := fun b => by rw [o_rd_s (by omega) (by decide), upd_at]
        have e50 := e5 false
        have e51 := e5 true
        have e60 := e6 false
        have e61 := e6 true
        rw [bI_f] at e50 e60
        rw [bI_t] at e51 e61
        rw [mor_snoc]
        generalize mor nu (XL nu inF) Lf ((ML nu inF).take i) = b
        generalize Lf r = u at *
        generalize outb nu (XL nu inF) Lf r = v at *
        cases b <;> cases u <;> cases v <;> simp only [fM_rules_L46, e1, if_false, e2, e3, Option.bind_some, Bool.not_true, Bool.not_false, bI_t, bI_f, show ¬ (1 : Int32) = 0 by decide, not_false_eq_true, not_true_eq_false, if_true, e50, e51, e60, e61, Bool.and_true, Bool.and_false, Bool.or_true, Bool.or_false, Bool.true_and, Bool.false_and, Bool.true_or, Bool.false_or, Bool.and_self, Bool.or_self, nI_1])
    (fun N x hx => by simp only [fM_rules_L46, Int32.le_refl, if_true])
  obtain ⟨y, hy, e2⟩ := lp0 (F := F) (ML nu inF).length (by omega) (fun N i (y : Nat → Int32) => fM_rules_L109 F (nI (ML nu inF).length) x.2 N (nI i) y) (fun y => (nI (ML nu inF).length, y)) (fun i y => ∀ j r, (ML nu inF)[j]? = some r → y j = bI (!(if j < i then nxt nu (XL nu inF) Lf r else Lf r))) (a := over) (fun j r hr => by rw [if_neg (by omega)]; exact hl j r hr)
    (fun i y hi hy => by
      have hr : (ML nu inF)[i]? = some (ML nu inF)[i] := List.getElem?_eq_getElem hi
      generalize (ML nu inF)[i] = r at hr
      have e1 : ¬ nI (ML nu inF).length ≤ nI i := nI_ge hi (by omega)
      have e3 : o_rd 1200 y (nI i) = some (bI (!Lf r)) := by rw [o_rd_s (by omega) (by decide), hy i r hr, if_neg (by omega)]
      have e4 : o_rd 1200 x.2 (nI i) = some (bI (Lf r && outb nu (XL nu inF) Lf r)) := by rw [o_rd_s (by omega) (by decide), hx2 i r hr]
      refine ⟨upd y i (bI (!nxt nu (XL nu inF) Lf r)), fun j r' hr' => ?_, fun N => ?_⟩
      · by_cases q : j = i
        · subst q
          rw [hr] at hr'
          rw [upd_at, if_pos (by omega), Option.some.inj hr']
        · rw [upd_off _ _ q, hy j r' hr']
          by_cases q2 : j < i
          · rw [if_pos q2, if_pos (by omega)]
          · rw [if_neg q2, if_neg (by omega)]
      · have e5 : ∀ b : Bool, o_wrZ 1200 y (nI i) (bI b) = some (upd y i (bI b)) := fun b => o_wrZ_b (by omega) (by decide)
        have e50 := e5 false
        have e51 := e5 true
        rw [bI_f] at e50
        rw [bI_t] at e51
        unfold nxt
        generalize Lf r = u at *
        generalize outb nu (XL nu inF) Lf r = v at *
        cases u <;> cases v <;> simp only [fM_rules_L109, e1, if_false, e3, e4, Option.bind_some, Bool.not_true, Bool.not_false, bI_t, bI_f, show ¬ (1 : Int32) = 0 by decide, not_false_eq_true, not_true_eq_false, if_true, e50, e51, Bool.and_true, Bool.and_false, Bool.true_and, Bool.false_and, Bool.and_self, nI_1])
    (fun N y hy => by simp only [fM_rules_L109, Int32.le_refl, if_true])
  refine ⟨a1, s1, y, x.2, fun k hk => (hs k hk).1, fun j r hr => ?_, fun N => ?_⟩
  · rw [hy j r hr, if_pos (ts_lt hr)]
  · rw [mor_perm (ML_perm nu inF)] at hx1
    have e11 : fM_rules_L46 F m.1 m.2.1 m.2.2.1 over a1 s1 F 0 0 ru0 = some (x.1, nI (ML nu inF).length, x.2) := by rw [hm1]; exact e1
    have e21 : fM_rules_L109 F m.1 x.2 F 0 over = some (nI (ML nu inF).length, y) := by rw [hm1]; exact e2
    simp only [fM_rules_L34, show ¬ (1 : Int32) = 0 by decide, if_false, e0, Option.bind_some, e11, e21, hx1]
    cases mor nu (XL nu inF) Lf (XL nu inF) <;> rfl
/-- the rounds to their end, of both -/
theorem rounds_s (hF : 588 < F) {a : Int32 × (Nat → Int32) × (Nat → Int32) × (Nat → Int64) × (Nat → Int32)} (ha : XI nu (XL nu inF) a) (hm : MI nu (ML nu inF) m) : ∀ (n : Nat) (Lf : Nat × Nat → Bool) (R : Nat), (XL nu inF).countP Lf = n → R + n ≤ 588 → ∀ (left over : Nat → Int32), LX (XL nu inF) Lf left → LM (ML nu inF) Lf over → ∀ (s0 a0 s2 a2 : Nat → Int64) (ru0 : Nat → Int32) (N : Nat), n + 1 < N → ∃ (Lz : Nat × Nat → Bool) (Rz : Nat) (s1 a1 : Nat → Int64) (left1 : Nat → Int32) (a3 s3 : Nat → Int64) (over1 ru1 : Nat → Int32), mor nu (XL nu inF) Lz (XL nu inF) = false ∧ Rz ≤ 588 ∧ (∀ k, k < 42 → s1 k = cset (Sm nu (XL nu inF) Lz k)) ∧ LX (XL nu inF) Lz left1 ∧ (∀ k, k < 42 → s3 k = cset (Sm nu (XL nu inF) Lz k)) ∧ LM (ML nu inF) Lz over1 ∧ fSteps_run_L74 F a.1 a.2.2.2.1 a.2.2.2.2 N s0 a0 left (nI R) = some (s1, a1, left1, nI Rz) ∧ fM_rules_L34 F m.1 m.2.1 m.2.2.1 N 1 a2 s2 over ru0 (nI R) = some (0, a3, s3, over1, ru1, nI Rz) := by
  intro n
  induction n using Nat.strongRecOn with
  | _ n ih =>
    intro Lf R hn hR left over hl ho s0 a0 s2 a2 ru0 N hN
    obtain ⟨M, rfl⟩ : ∃ M, N = M + 1 := ⟨N - 1, by omega⟩
    obtain ⟨s1, a1, left', p1, p2, p3⟩ := X_ruleOut hF ha hl s0 a0
    obtain ⟨a3, s3, over', ru', p4, p5, p6⟩ := M_round hF hm ho a2 s2 ru0 (nI R)
    have e1 : ¬ (588 : Int32) < nI R := nI_nlt (a := 588) (by omega) (by decide)
    cases hmor : mor nu (XL nu inF) Lf (XL nu inF) with
    | true =>
      have hlt := nxt_le (nu := nu) (x := XL nu inF) (Lf := Lf) (XL nu inF)
      rw [hmor, if_pos rfl] at hlt
      rw [hmor] at p3 p6
      have := p6 M
      rw [bI_t, nI_1] at this
      rw [bI_t] at p3
      obtain ⟨Lz, Rz, t1, b1, left1, b3, t3, over1, ru1, q1, q2, q3, q4, q5, q6, q7, q8⟩ := ih _ (by omega : (XL nu inF).countP (nxt nu (XL nu inF) Lf) < n) (nxt nu (XL nu inF) Lf) (R + 1) rfl (by omega) left' over' p2 p5 s1 a1 s3 a3 ru' M (by omega)
      refine ⟨Lz, Rz, t1, b1, left1, b3, t3, over1, ru1, q1, q2, q3, q4, q5, q6, ?_, ?_⟩
      · simp only [fSteps_run_L74, e1, if_false, p3, Option.bind_some, show ¬ (1 : Int32) = 0 by decide, nI_1]
        exact q7
      · rw [this]
        exact q8
    | false =>
      rw [hmor] at p3 p6
      have := p6 M
      rw [bI_f, Int32.add_zero] at this
      rw [bI_f] at p3
      refine ⟨Lf, R, s1, a1, left', a3, s3, over', ru', hmor, by omega, p1, ⟨fun i r hr => ?_, p2.2⟩, p4, fun i r hr => ?_, ?_, ?_⟩
      · exact (p2.1 i r hr).trans (congrArg bI (nxt_of hmor (List.mem_of_getElem? hr)))
      · exact (p5 i r hr).trans (congrArg (fun b => bI (!b)) (nxt_of hmor ((ML_perm nu inF).mem_iff.mp (List.mem_of_getElem? hr))))
      · simp only [fSteps_run_L74, e1, if_false, p3, Option.bind_some, if_true]
      · rw [this]
        obtain ⟨K, rfl⟩ : ∃ K, M = K + 1 := ⟨M - 1, by omega⟩
        simp only [fM_rules_L34, if_true]
end G
/-- the whole of it, on a board -/
theorem run_s {F : Nat} (hF : 1200 < F) {ef el : Nat → Int32} {ec : Nat → Int64} (hE : EV ef el ec) {nu inF fi la s : Nat → Int32} (h : BR nu inF fi la s 0) (c0 : Int32) (f0 l0 : Nat → Int32) (e0 : Nat → Int64) (o0 : Nat → Int32) (op0 nm0 : Int64) (lf0 : Nat → Int32) (rd0 : Int32) (s0 a0 : Nat → Int64) (mc0 : Int32) (mt0 : Nat → Int32) (mce0 : Nat → Int64) (mo0 mcd0 mov0 : Nat → Int32) (mr0 : Int32) (ma0 ms0 : Nat → Int64) (mru0 : Nat → Int32) : ∃ (a : Int32 × (Nat → Int32) × (Nat → Int32) × (Nat → Int64) × (Nat → Int32)) (m : Int32 × (Nat → Int64) × (Nat → Int32) × (Nat → Int32) × (Nat → Int32)) (Lz : Nat × Nat → Bool) (Rz : Nat) (s1 a1 : Nat → Int64) (left1 : Nat → Int32) (a3 s3 : Nat → Int64) (over1 ru1 : Nat → Int32), XI nu (XL nu inF) a ∧ MI nu (ML nu inF) m ∧ mor nu (XL nu inF) Lz (XL nu inF) = false ∧ Rz ≤ 588 ∧ (∀ k, k < 42 → s1 k = cset (Sm nu (XL nu inF) Lz k)) ∧ LX (XL nu inF) Lz left1 ∧ (∀ k, k < 42 → s3 k = cset (Sm nu (XL nu inF) Lz k)) ∧ LM (ML nu inF) Lz over1 ∧ fSteps_run F inF nu c0 ec ef f0 el l0 e0 o0 op0 nm0 lf0 rd0 s0 a0 = some (a.1, a.2.1, a.2.2.1, a.2.2.2.1, a.2.2.2.2, cset (fun k => !decide (inF k ≠ 0)), cset (fun k => decide (nu k ≠ 0) && !decide (inF k ≠ 0)), left1, nI Rz, s1, a1) ∧ fM_rules F mc0 mt0 s mce0 mo0 mcd0 mov0 mr0 ma0 ms0 mru0 = some (m.1, m.2.2.2.2, m.2.1, m.2.2.1, m.2.2.2.1, over1, nI Rz, a3, s3, ru1) := by
  obtain ⟨a, ha, ea⟩ := find_s (F := F) (by omega) hE nu inF c0 f0 l0 e0 o0
  obtain ⟨m, hm, em⟩ := finds_s hF h mc0 mt0 mce0 mo0 mcd0
  have hlX := XL_len nu inF
  have hlM := ML_len nu inF
  have hm1 := hm.1
  have ha1 := ha.1
  obtain ⟨left, hl, e1⟩ := lp0 (F := F) 588 (by omega) (fun N i (t : Nat → Int32) => fSteps_run_L34 F (nI (XL nu inF).length) N (nI i) t) (fun t => (nI 588, t)) (fun i t => ∀ j, j < i → t j = if j < (XL nu inF).length then 1 else 0) (a := lf0) (fun j hj => by omega)
    (fun i t hi ht => by
      refine ⟨upd t i (if i < (XL nu inF).length then 1 else 0), fun j hj => ?_, fun N => ?_⟩
      · by_cases q : j = i
        · subst q; exact upd_at _ _ _
        · rw [upd_off _ _ q]; exact ht j (by omega)
      · by_cases q : i < (XL nu inF).length
        · have e2 : ¬ nI (XL nu inF).length ≤ nI i := nI_ge q (by omega)
          simp only [fSteps_run_L34, fRectangles_size, ge588 hi, if_false, Option.bind_some, e2, q, if_true, o_wrZ_s1 hi (show 588 < 2 ^ 31 by decide), nI_1]
        · have e2 : nI (XL nu inF).length ≤ nI i := nI_le (by omega) (by omega)
          simp only [fSteps_run_L34, fRectangles_size, ge588 hi, if_false, Option.bind_some, e2, q, if_true, o_wrZ_s0 hi (show 588 < 2 ^ 31 by decide), nI_1])
    (fun N t ht => by simp only [fSteps_run_L34, show (588 : Int32) ≤ nI 588 from Int32.le_refl _, if_true])
  obtain ⟨over, ho, e2⟩ := lp0 (F := F) (ML nu inF).length (by omega) (fun N i (t : Nat → Int32) => fM_rules_L6 F (nI (ML nu inF).length) N (nI i) t) (fun t => (nI (ML nu inF).length, t)) (fun i t => ∀ j, j < i → t j = 0) (a := mov0) (fun j hj => by omega)
    (fun i t hi ht => by
      refine ⟨upd t i 0, fun j hj => ?_, fun N => ?_⟩
      · by_cases q : j = i
        · subst q; exact upd_at _ _ _
        · rw [upd_off _ _ q]; exact ht j (by omega)
      · have e2 : ¬ nI (ML nu inF).length ≤ nI i := nI_ge hi (by omega)
        simp only [fM_rules_L6, e2, if_false, o_wrZ_s0 (show i < 1200 by omega) (show 1200 < 2 ^ 31 by decide), Option.bind_some, nI_1])
    (fun N t ht => by simp only [fM_rules_L6, Int32.le_refl, if_true])
  have hLX : LX (XL nu inF) (fun _ => true) left := ⟨fun i r hr => by
    have := ts_lt hr
    rw [hl i (by omega), if_pos this]; rfl, fun i h1 h2 => by rw [hl i h2, if_neg (by omega)]⟩
  have hLM : LM (ML nu inF) (fun _ => true) over := fun i r hr => ho i (ts_lt hr)
  have hcp : (XL nu inF).countP (fun _ => true) = (XL nu inF).length := by
    rw [List.countP_eq_length]
    exact fun _ _ => rfl
  obtain ⟨Lz, Rz, s1, a1, left1, a3, s3, over1, ru1, q1, q2, q3, q4, q5, q6, q7, q8⟩ := rounds_s (F := F) (by omega) ha hm _ (fun _ => true) 0 hcp (by omega) left over hLX hLM s0 a0 ms0 ma0 mru0 F (by omega)
  refine ⟨a, m, Lz, Rz, s1, a1, left1, a3, s3, over1, ru1, ha, hm, q1, q2, q3, q4, q5, q6, ?_, ?_⟩
  · unfold fSteps_run
    try rw [nI_0] at e1
    try rw [nI_0] at q7
    rw [ea, Option.bind_some, cellsInFields_e (by omega), Option.bind_some, openNumbers_e (by omega), Option.bind_some, ha1, e1, Option.bind_some, ← ha1, q7, Option.bind_some]
    have : ((4398046511103 : Int64) &&& (Tk inF ^^^ (-1 : Int64))) = cset (fun k => !decide (inF k ≠ 0)) := by
      show ALL &&& _ = _
      rw [ALL_cs, and_not]
      exact cset_cong (fun k hk => by unfold Tk; rw [tb_cset' _ hk, Bool.true_and])
    rw [this]
  · unfold fM_rules
    rw [em, Option.bind_some]
    simp only
    try rw [nI_0] at e2
    rw [hm1, e2, Option.bind_some, ← hm1]
    simp only
    try rw [nI_0] at q8
    rw [q8]
    rfl
