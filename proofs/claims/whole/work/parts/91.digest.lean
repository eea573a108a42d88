/-! THE MATHEMATICS: the digest's lists, its cells. Own text. -/
section CDh
variable {F L i : Nat} {nu inF fi la s : Nat → Int32}
variable {a : Int32 × (Nat → Int32) × (Nat → Int32) × (Nat → Int64) × (Nat → Int32)} {m : Int32 × (Nat → Int64) × (Nat → Int32) × (Nat → Int32) × (Nat → Int32)} {Lf : Nat × Nat → Bool}
def hs (l : List (Nat × Nat)) (v : Int64) : Int64 := l.foldl (fun h r => mx (cdO r).toInt64 h) v
theorem hs_snoc (nu : Nat → Int32) (c : Nat) (l : List (Nat × Nat)) (r : Nat × Nat) (v : Int64) : hs ((l ++ [r]).filter (fun r => decide (own nu r = c))) v = if own nu r = c then mx (cdO r).toInt64 (hs (l.filter (fun r => decide (own nu r = c))) v) else hs (l.filter (fun r => decide (own nu r = c))) v := by
  unfold hs
  rw [List.filter_append, List.foldl_append]
  by_cases q : own nu r = c
  · rw [if_pos q, show [r].filter (fun r => decide (own nu r = c)) = [r] from by simp only [List.filter, decide_eq_true q]]
    rfl
  · rw [if_neg q, show [r].filter (fun r => decide (own nu r = c)) = [] from by simp only [List.filter, decide_eq_false q]]
    rfl
theorem X_list (hF : 588 < F) (ha : XI nu (XL nu inF) a) {c : Nat} (hc : c < 42) (v : Int64) : fX_addCell_L84 F (nI c) a.1 a.2.2.2.2 a.2.1 a.2.2.1 F (0 : Int32) v = some (nI (XL nu inF).length, hs (LK nu inF c) v) := by
  have hl := XL_len nu inF
  obtain ⟨b, hb, e⟩ := lpl (XL nu inF) (show (XL nu inF).length < F by omega) (fun N i (v : Int64) => fX_addCell_L84 F (nI c) a.1 a.2.2.2.2 a.2.1 a.2.2.1 N (nI i) v) (fun v => (nI (XL nu inF).length, v)) (fun l w => w = hs (l.filter (fun r => decide (own nu r = c))) v) (a := v) rfl
    (fun i r w hr hi hw => by
      have ho : own nu r < 42 := (XL_get hr).2.2.1
      have e1 : ¬ nI (XL nu inF).length ≤ nI i := by
        intro q
        have := (nI_leI (by omega) (by omega)).mp q
        omega
      have e2 : nI i + (1 : Int32) = nI (i + 1) := nI_add i 1
      refine ⟨_, rfl, fun N => ?_⟩
      show fX_addCell_L84 F (nI c) a.1 a.2.2.2.2 a.2.1 a.2.2.1 (N + 1) (nI i) w = _
      rw [fX_addCell_L84, hs_snoc, ← hw]
      unfold fRectangles_size
      rw [Option.bind_some, ha.1, if_neg e1, ownerAt_s hi hl, Option.bind_some, ha.2.2.2.2 i r hr, e2]
      by_cases q : own nu r = c
      · rw [if_neg (not_not_intro (congrArg nI q)), if_pos q, bothEnds_s hi hl, ha.2.1 i r hr, ha.2.2.1 i r hr, Option.bind_some, add_s, Option.bind_some]
        have ec : nI r.1 * 42 + nI r.2 = cdO r := by
          unfold cdO
          rw [show (42 : Int32) = nI 42 from rfl, nI_mul, nI_add, Nat.mul_comm]
        rw [ec]
        rfl
      · rw [if_pos (show ¬ nI (own nu r) = nI c from fun e => q (nI_inj (by omega) (by omega) e)), if_neg q]
        rfl)
    (fun N w hw => by
      show fX_addCell_L84 F (nI c) a.1 a.2.2.2.2 a.2.1 a.2.2.1 (N + 1) (nI (XL nu inF).length) w = _
      rw [fX_addCell_L84]
      unfold fRectangles_size
      rw [Option.bind_some, ha.1, if_pos (Int32.le_refl _)])
  rw [show (0 : Int32) = nI 0 from rfl]
  rw [hb] at e
  exact e
theorem M_list (hF : 588 < F) (hm : MI nu (ML nu inF) m) {c : Nat} (hc : c < 42) (v : Int64) : fM_digest_L92 F (nI c) m.1 m.2.2.1 m.2.2.2.1 F (0 : Int32) v = some (nI (ML nu inF).length, hs ((ML nu inF).filter (fun r => decide (own nu r = c))) v) := by
  have hl := ML_len nu inF
  obtain ⟨b, hb, e⟩ := lpl (ML nu inF) (show (ML nu inF).length < F by omega) (fun N i (v : Int64) => fM_digest_L92 F (nI c) m.1 m.2.2.1 m.2.2.2.1 N (nI i) v) (fun v => (nI (ML nu inF).length, v)) (fun l w => w = hs (l.filter (fun r => decide (own nu r = c))) v) (a := v) rfl
    (fun i r w hr hi hw => by
      have ho : own nu r < 42 := (ML_get hr).2.2.2.1
      have e1 : ¬ nI (ML nu inF).length ≤ nI i := by
        intro q
        have := (nI_leI (by omega) (by omega)).mp q
        omega
      have e2 : nI i + (1 : Int32) = nI (i + 1) := nI_add i 1
      refine ⟨_, rfl, fun N => ?_⟩
      show fM_digest_L92 F (nI c) m.1 m.2.2.1 m.2.2.2.1 (N + 1) (nI i) w = _
      rw [fM_digest_L92, hs_snoc, ← hw, hm.1, if_neg e1, o_rd_s (show i < 1200 by omega) (by decide), Option.bind_some, hm.2.2.1 i r hr, e2]
      by_cases q : own nu r = c
      · rw [if_neg (not_not_intro (congrArg nI q)), if_pos q, o_rd_s (show i < 1200 by omega) (by decide), Option.bind_some, hm.2.2.2.1 i r hr, mix_s]
        rfl
      · rw [if_pos (show ¬ nI (own nu r) = nI c from fun e => q (nI_inj (by omega) (by omega) e)), if_neg q]
        rfl)
    (fun N w hw => by
      show fM_digest_L92 F (nI c) m.1 m.2.2.1 m.2.2.2.1 (N + 1) (nI (ML nu inF).length) w = _
      rw [fM_digest_L92, hm.1, if_pos (Int32.le_refl _)])
  rw [show (0 : Int32) = nI 0 from rfl]
  rw [hb] at e
  exact e
end CDh
