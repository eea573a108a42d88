/-! THE MATHEMATICS: the digest, the case. Own text. -/
section CDk
variable {F L i : Nat} {xs nu inF fi la s : Nat → Int32} {th : Int32} {ef el : Nat → Int32} {ec : Nat → Int64}
theorem L312_0 {n : Int32} (hF : 0 < F) (hn : n ≤ 0) (co wi : Nat → Int32) (v : Int64) : fM_digest_L312 F n co wi F (0 : Int32) v = some (0, v) := by
  obtain ⟨M, rfl⟩ : ∃ M, F = M + 1 := ⟨F - 1, by omega⟩
  rw [fM_digest_L312, if_neg (show ¬ (42 : Int32) ≤ 0 by decide), if_pos hn]
variable (countX : Int32) (firstX lastX : Nat → Int32) (cellsX : Nat → Int64) (ownerX : Nat → Int32) (openS numbersS : Int64) (leftS : Nat → Int32) (roundsDoneS : Int32) (inSomeS inAllS : Nat → Int64) (manyM : Int32) (tableM : Nat → Int32) (cellsM : Nat → Int64) (ownerM codeM isOverM : Nat → Int32) (roundM : Int32) (allM someM : Nat → Int64) (isRuledM lastM chosenM cornerM wideM : Nat → Int32)
variable (numberW inFieldW firstW lastW : Nat → Int32) (limitW waysW : Int32) (chosenW : Nat → Int32) (numbersN : Int64) (waysN : Int32) (choicesN : Nat → Int32) (hashM : Int64)
theorem case43 (hF : 8 ^ 43 < F) (hE : EV ef el ec) (h : BR nu inF fi la s 0) {count : Int32} {n : Nat} (hn : n ≤ 60) {codes buf : Nat → Int32} (hc : ∀ k, k < n → codes k = buf k) {filled kept : Nat → Int32} (hf : ∀ j, j < 2 → (filled j = 0 ∨ filled j = 1) ∧ kept j = filled j) :
    ∃ out, fL_case43 F L (nI i) xs inF count nu fi la s th count countX ec ef firstX el lastX cellsX ownerX openS numbersS leftS roundsDoneS inSomeS inAllS manyM tableM cellsM ownerM codeM isOverM roundM allM someM isRuledM numberW inFieldW firstW lastW limitW waysW chosenW lastM chosenM cornerM wideM (nI n) codes (nI n) buf filled kept numbersN waysN choicesN hashM = some out := by
  have hF2 := big_F hF
  obtain ⟨aa, m, Lz, Rz, s1, a1, left1, a3, s3, over1, ru1, r1, r2, r3, r4, r5, r6, r7, r8, z1, z2⟩ := run_s (F := F) (by clear hF; omega) hE h countX firstX lastX cellsX ownerX openS numbersS leftS roundsDoneS inSomeS inAllS manyM tableM cellsM ownerM codeM isOverM roundM allM someM isRuledM
  obtain ⟨w, c1, c2⟩ := cells_s (F := F) (by clear hF; omega) h r1 r2 r6 r8 42 0 F 4421 rfl (by clear hF; omega)
  obtain ⟨j17, x18, y, z, t1, t2, t3, t4, t5, t6⟩ := tot_s (F := F) (by clear hF; omega) h r1 r2 r6 r8 (bI_cases (con nu inF Lz))
  obtain ⟨b, nm, ch1, b1, b2⟩ := numWays_s (nu := nu) (inF := inF) (F := F) (by clear hF; omega) hE aa.1 aa.2.1 aa.2.2.1 aa.2.2.2.1 aa.2.2.2.2 numbersN waysN choicesN
  obtain ⟨d, n1, i1, f1, k1, ch2, d1, d2, d3, d4⟩ := countWays_s (nu := nu) (inF := inF) (F := F) (by clear hF; omega) hE (lim := 50) (by decide) (by decide) (fi := fi) (la := la) h.bit b.1 b.2.1 b.2.2.1 b.2.2.2.1 b.2.2.2.2 numberW inFieldW firstW lastW limitW waysW chosenW
  obtain ⟨m', l1, g1, g2, g3, m1, m2, m3⟩ := mways_s hF h (most := 50) (by decide) (by decide) m.1 m.2.2.2.2 m.2.1 m.2.2.1 m.2.2.2.1 lastM chosenM cornerM wideM
  obtain ⟨x, e, x1, x2, x3, x4⟩ := X_mean d.1 d.2.1 d.2.2.1 d.2.2.2.1 d.2.2.2.2 (F := F) (by clear hF; omega) hE h
  obtain ⟨vb, v1, v2⟩ := bitsOf_s hF2 x1
  obtain ⟨y1, y2⟩ := h.total (F := F) (by clear hF; omega)
  obtain ⟨q, -, y3, y4⟩ := h.count (F := F) (by clear hF; omega)
  have y5 : fM_bits F (Nm nu) = some (fJ_bitCount (Nm nu)) := bits_bc (by clear hF; omega) (inB_cset _)
  have y6 : fM_bits F (Tk inF) = some (fJ_bitCount (Tk inF)) := bits_bc (by clear hF; omega) (inB_cset _)
  have hml : m'.1 = nI (ML nu inF).length := m1.1
  have hma : aa.1 = m.1 := by rw [r1.1, r2.1, (ML_perm nu inF).length_eq]
  unfold ALL at y1
  unfold fL_case43 fX_digest fM_digest fX_addTotals fX_addWays fHash_init fHistory_countSaved fHash_addBits fHash_value fCellSearch_firstWay fSteps_countRounds fRectangles_size fX_countOpenCells fInputText_length
  rw [z1, z2]
  simp only [Option.bind_some, add_s, mix_s]
  rw [show fX_digest_L21 F inF nu aa.1 aa.2.1 aa.2.2.1 aa.2.2.2.1 aa.2.2.2.2 left1 fi la F (0 : Int32) 4421 = _ from c1, show fM_digest_L18 F m.1 s m.2.1 m.2.2.1 m.2.2.2.1 over1 F (0 : Int32) 4421 = _ from c2]
  rw [numbered_X (F := F) (by clear hF; omega) h, numbered_e (F := F) (by clear hF; omega) h, taken_X (F := F) (by clear hF; omega) h, taken_e (F := F) (by clear hF; omega) h, y1, y2, y3, y4, X_countLeft (F := F) (by clear hF; omega) r6, M_leftAll (F := F) (by clear hF; omega) r2 r8, X_con (F := F) (by clear hF; omega) r5, M_con (F := F) (by clear hF; omega) h r7]
  simp only [Option.bind_some]
  rw [y5, y6]
  simp only [Option.bind_some]
  rw [t1, t2]
  simp only [Option.bind_some]
  rw [t3, t5, t6]
  simp only [Option.bind_some]
  rw [t4]
  simp only [Option.bind_some]
  rw [b2]
  simp only [Option.bind_some]
  rw [show fCellSearch_countWays F (50 : Int32) inF nu b.1 ec ef b.2.1 el b.2.2.1 b.2.2.2.1 b.2.2.2.2 numberW inFieldW fi firstW la lastW limitW waysW chosenW = _ from d2, show fM_ways F (50 : Int32) m.1 m.2.2.2.2 s m.2.1 m.2.2.1 m.2.2.2.1 lastM chosenM cornerM wideM = _ from m2]
  simp only [Option.bind_some]
  have sn1 := fun v => (snap_s (F := F) (by clear hF; omega) hf v).1
  have sn2 := (snap_s (F := F) (by clear hF; omega) hf 0).2
  have kz : o_rd 2 kept (0 : Int32) = some (kept 0) := o_rd_s (i := 0) (by decide) (by decide)
  have ko : o_rd 2 kept (1 : Int32) = some (kept 1) := o_rd_s (i := 1) (by decide) (by decide)
  have key : ∀ S : Int64, ∃ v', fX_digest_L116 F (nI n) codes F (0 : Int32) S = some (nI n, v') ∧ fM_digest_L422 F (nI n) buf F (0 : Int32) S = some (nI n, v') := fun S => text_s hn hc n 0 F S (Nat.zero_add n) (by clear hF; omega)
  obtain ⟨T, hT⟩ : ∃ T : Int64 → Int64, ∀ S, fX_digest_L116 F (nI n) codes F (0 : Int32) S = some (nI n, T S) ∧ fM_digest_L422 F (nI n) buf F (0 : Int32) S = some (nI n, T S) := ⟨fun S => Classical.choose (key S), fun S => Classical.choose_spec (key S)⟩
  have tx1 := fun S => (hT S).1
  have tx2 := fun S => (hT S).2
  by_cases cw : nI (min 50 (WW nu inF (Tk inF))) ≤ (0 : Int32)
  · rw [if_pos cw, L312_0 (by clear hF; omega) cw]
    simp only [Option.bind_some]
    rw [x3, hml, x4]
    simp only [Option.bind_some]
    rw [v1, v2]
    simp only [Option.bind_some]
    rw [sn1, kz, ko]
    simp only [Option.bind_some]
    rw [sn2 0 (by decide), sn2 1 (by decide)]
    simp only [Option.bind_some]
    rw [hma, tx1, tx2]
    simp only [Option.bind_some, if_true]
    exact ⟨_, rfl⟩
  · have hW : WW nu inF (Tk inF) ≠ 0 := fun e => cw (by rw [e]; decide)
    obtain ⟨Z, w1, w2⟩ := WW_head hW
    obtain ⟨w3, w4⟩ := FL_ok w2
    have fs := fun S => first_s (F := F) cw (fun k hk => (first_eq h w3 w4 (d4 Z w1) (m3 Z w1) hk).1) (fun k hk => (first_eq h w3 w4 (d4 Z w1) (m3 Z w1) hk).2) 42 0 F S rfl (by clear hF; omega)
    obtain ⟨U, hU⟩ : ∃ U : Int64 → Int64, ∀ S, fX_addWays_L51 F f1 k1 F (0 : Int32) S = some (nI 42, U S) ∧ fM_digest_L312 F (nI (min 50 (WW nu inF (Tk inF)))) g2 g3 F (0 : Int32) S = some (nI 42, U S) := ⟨fun S => Classical.choose (fs S), fun S => Classical.choose_spec (fs S)⟩
    have fs1 := fun S => (hU S).1
    have fs2 := fun S => (hU S).2
    rw [if_neg cw, fs1, fs2]
    simp only [Option.bind_some]
    rw [x3, hml, x4]
    simp only [Option.bind_some]
    rw [v1, v2]
    simp only [Option.bind_some]
    rw [sn1, kz, ko]
    simp only [Option.bind_some]
    rw [sn2 0 (by decide), sn2 1 (by decide)]
    simp only [Option.bind_some]
    rw [hma, tx1, tx2]
    simp only [Option.bind_some, if_true]
    exact ⟨_, rfl⟩
end CDk
