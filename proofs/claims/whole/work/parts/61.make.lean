/-! THE MATHEMATICS: numbers by a seed. Own text. -/
def ns (s : Nat) : Nat := (s * 1103515245 + 12345) % 2147483648
def dr (n s : Nat) : Nat := ns s / 65536 % n
theorem ns_lt (s : Nat) : ns s < 2147483648 := Nat.mod_lt _ (by decide)
theorem dr_lt {n s : Nat} (h : 0 < n) : dr n s < n := Nat.mod_lt _ h
theorem ns_e {s : Nat} (hs : s < 2147483648) : ((lN s * (1103515245 : Int64)) + (12345 : Int64)) - ((lN s * (1103515245 : Int64)) + (12345 : Int64)) / (2147483648 : Int64) * (2147483648 : Int64) = lN (ns s) := by
  rw [show (1103515245 : Int64) = lN 1103515245 from rfl, show (12345 : Int64) = lN 12345 from rfl, show (2147483648 : Int64) = lN 2147483648 from rfl, lN_mul, lN_add]
  exact pk_lRem (by omega) (by decide) (by decide)
theorem rem_e {n s : Nat} (h : 0 < n) (hn : n < 2 ^ 31) : o_remJ (lN (ns s) / (65536 : Int64)) (nI n).toInt64 = some (lN (dr n s)) := by
  have h1 := ns_lt s
  rw [nI_l hn, show (65536 : Int64) = lN 65536 from rfl, pk_lDiv (by omega) (by decide) (by decide)]
  unfold o_remJ
  have h2 : ¬ lN n = 0 := fun e => by
    have := (pk_lEQ (a := n) (b := 0) (by omega) (by decide)).mp e
    omega
  rw [if_neg h2, pk_lRem (by omega) h (by omega)]
  rfl
theorem drawX {n s : Nat} (h : 0 < n) (hn : n < 2 ^ 31) (hs : s < 2147483648) : fMaker_drawBelow (nI n) (lN s) = some (nI (dr n s), lN (ns s)) := by
  unfold fMaker_drawBelow
  rw [ns_e hs, if_neg (nI_nle h hn), rem_e h hn, Option.bind_some, lN_i]
theorem drawM {n s : Nat} (h : 0 < n) (hn : n < 2 ^ 31) (hs : s < 2147483648) : fM_drawn (nI n) (lN s) = some (nI (dr n s), lN (ns s)) := by
  unfold fM_drawn
  rw [ns_e hs, rem_e h hn, Option.bind_some, lN_i]
/-- a board that is cut: n rectangles, by their corners -/
def QC (n : Nat) (A B : Nat → Nat) : Prop := 0 < n ∧ (∀ i, i < n → RC (A i) (B i)) ∧ (∀ i j, i < n → j < n → i ≠ j → DJ (A i, B i) (A j, B j)) ∧ fb_sm (fun i => sz (A i, B i)) n = 42
theorem QC.le {n : Nat} {A B : Nat → Nat} (h : QC n A B) : n ≤ 42 := by
  obtain ⟨-, h1, -, h2⟩ := h
  have h3 : fb_sm (fun _ => 1) n ≤ fb_sm (fun i => sz (A i, B i)) n := fb_sm_le (fun i hi => sz_pos (h1 i hi))
  rw [fb_sm_const, h2] at h3
  omega
theorem sz_e {a b : Nat} (h : RC a b) : sz (a, b) = (b / 7 - a / 7 + 1) * (b % 7 - a % 7 + 1) := rect_ct h
theorem QC.room {n : Nat} {A B : Nat → Nat} (h : QC n A B) {k : Nat} (hk : k < n) (h6 : 6 < sz (A k, B k)) : n < 42 := by
  obtain ⟨-, h1, -, h2⟩ := h
  have h3 := fb_sm_upd (fun i => sz (A i, B i)) 1 hk
  have h4 : fb_sm (fun _ => 1) n ≤ fb_sm (fun i => if i = k then 1 else sz (A i, B i)) n := fb_sm_le (fun i hi => by
    by_cases q : i = k
    · rw [if_pos q]; exact Nat.le_refl _
    · rw [if_neg q]; exact sz_pos (h1 i hi))
  rw [fb_sm_const] at h4
  simp only at h3
  omega
/-- how a rectangle is cut -/
def cutB (a b s : Nat) : Nat := if b / 7 - a / 7 + 1 ≤ b % 7 - a % 7 + 1 then 7 * (b / 7) + (a % 7 + dr (b % 7 - a % 7) s) else 7 * (a / 7 + dr (b / 7 - a / 7) s) + b % 7
def cutA (a b s : Nat) : Nat := if b / 7 - a / 7 + 1 ≤ b % 7 - a % 7 + 1 then a + (dr (b % 7 - a % 7) s + 1) else a + 7 * (dr (b / 7 - a / 7) s + 1)
theorem cut_ok {a b s : Nat} (h : RC a b) (h6 : 6 < sz (a, b)) : RC a (cutB a b s) ∧ RC (cutA a b s) b ∧ sz (a, cutB a b s) + sz (cutA a b s, b) = sz (a, b) ∧ (∀ k, inb a (cutB a b s) k = true → inb a b k = true) ∧ (∀ k, inb (cutA a b s) b k = true → inb a b k = true) ∧ DJ (a, cutB a b s) (cutA a b s, b) := by
  have h' := h
  unfold RC at h'
  obtain ⟨h1, h2, h3, h4⟩ := h'
  rw [sz_e h] at h6
  by_cases q : b / 7 - a / 7 + 1 ≤ b % 7 - a % 7 + 1
  · have hc : 0 < b % 7 - a % 7 := by
      apply Nat.pos_of_ne_zero
      intro z
      rw [z] at h6 q
      have : b / 7 - a / 7 = 0 := by omega
      rw [this] at h6
      omega
    have hd := dr_lt (s := s) hc
    have eB : cutB a b s = 7 * (b / 7) + (a % 7 + dr (b % 7 - a % 7) s) := if_pos q
    have eA : cutA a b s = a + (dr (b % 7 - a % 7) s + 1) := if_pos q
    rw [eA, eB]
    generalize dr (b % 7 - a % 7) s = d at hd
    have r1 : RC a (7 * (b / 7) + (a % 7 + d)) := by unfold RC; omega
    have r2 : RC (a + (d + 1)) b := by unfold RC; omega
    refine ⟨r1, r2, ?_, fun k hk => ?_, fun k hk => ?_, ?_⟩
    · rw [sz_e r1, sz_e r2, sz_e h]
      have x1 : (7 * (b / 7) + (a % 7 + d)) / 7 = b / 7 := by omega
      have x2 : (7 * (b / 7) + (a % 7 + d)) % 7 = a % 7 + d := by omega
      have x3 : (a + (d + 1)) / 7 = a / 7 := by omega
      have x4 : (a + (d + 1)) % 7 = a % 7 + (d + 1) := by omega
      rw [x1, x2, x3, x4, ← Nat.mul_add]
      congr 1
      omega
    · rw [inb_iff] at hk ⊢; unfold IN at hk ⊢; omega
    · rw [inb_iff] at hk ⊢; unfold IN at hk ⊢; omega
    · rintro k hk ⟨e1, e2⟩
      have e1 := inb_iff.mp e1
      have e2 := inb_iff.mp e2
      unfold IN at e1 e2
      simp only at e1 e2
      omega
  · have hc : 0 < b / 7 - a / 7 := by omega
    have hd := dr_lt (s := s) hc
    have eB : cutB a b s = 7 * (a / 7 + dr (b / 7 - a / 7) s) + b % 7 := if_neg q
    have eA : cutA a b s = a + 7 * (dr (b / 7 - a / 7) s + 1) := if_neg q
    rw [eA, eB]
    generalize dr (b / 7 - a / 7) s = d at hd
    have r1 : RC a (7 * (a / 7 + d) + b % 7) := by unfold RC; omega
    have r2 : RC (a + 7 * (d + 1)) b := by unfold RC; omega
    refine ⟨r1, r2, ?_, fun k hk => ?_, fun k hk => ?_, ?_⟩
    · rw [sz_e r1, sz_e r2, sz_e h]
      have x1 : (7 * (a / 7 + d) + b % 7) / 7 = a / 7 + d := by omega
      have x2 : (7 * (a / 7 + d) + b % 7) % 7 = b % 7 := by omega
      have x3 : (a + 7 * (d + 1)) / 7 = a / 7 + (d + 1) := by omega
      have x4 : (a + 7 * (d + 1)) % 7 = a % 7 := by omega
      rw [x1, x2, x3, x4, ← Nat.add_mul]
      congr 1
      omega
    · rw [inb_iff] at hk ⊢; unfold IN at hk ⊢; omega
    · rw [inb_iff] at hk ⊢; unfold IN at hk ⊢; omega
    · rintro k hk ⟨e1, e2⟩
      have e1 := inb_iff.mp e1
      have e2 := inb_iff.mp e2
      unfold IN at e1 e2
      simp only at e1 e2
      omega
def nA (n k : Nat) (A B : Nat → Nat) (s : Nat) : Nat → Nat := fun i => if i = n then cutA (A k) (B k) s else A i
def nB (n k : Nat) (A B : Nat → Nat) (s : Nat) : Nat → Nat := fun i => if i = n then B k else if i = k then cutB (A k) (B k) s else B i
theorem QC.cut {n : Nat} {A B : Nat → Nat} (h : QC n A B) {k : Nat} (hk : k < n) (h6 : 6 < sz (A k, B k)) (s : Nat) : QC (n + 1) (nA n k A B s) (nB n k A B s) := by
  obtain ⟨h0, h1, h2, h3⟩ := h
  obtain ⟨c1, c2, c3, c4, c5, c6⟩ := cut_ok (s := s) (h1 k hk) h6
  have eAn : nA n k A B s n = cutA (A k) (B k) s := if_pos rfl
  have eBn : nB n k A B s n = B k := if_pos rfl
  have eAk : nA n k A B s k = A k := if_neg (by omega)
  have eBk : nB n k A B s k = cutB (A k) (B k) s := by unfold nB; rw [if_neg (by omega), if_pos rfl]
  have eAo : ∀ i, i < n → nA n k A B s i = A i := fun i hi => if_neg (by omega)
  have eBo : ∀ i, i < n → i ≠ k → nB n k A B s i = B i := fun i hi q => by unfold nB; rw [if_neg (by omega), if_neg q]
  have sub : ∀ i, i < n → ∀ x, inb (nA n k A B s i) (nB n k A B s i) x = true → inb (A i) (B i) x = true := fun i hi x hx => by
    rw [eAo i hi] at hx
    by_cases q : i = k
    · subst q
      rw [eBk] at hx
      exact c4 x hx
    · rw [eBo i hi q] at hx
      exact hx
  have sym : ∀ {r r' : Nat × Nat}, DJ r r' → DJ r' r := fun h x hx ⟨e1, e2⟩ => h x hx ⟨e2, e1⟩
  have dn : ∀ i, i < n → DJ (nA n k A B s i, nB n k A B s i) (nA n k A B s n, nB n k A B s n) := fun i hi => by
    by_cases q : i = k
    · subst q
      rw [eAk, eBk, eAn, eBn]
      exact c6
    · rintro x hx ⟨e1, e2⟩
      rw [eAn, eBn] at e2
      exact h2 i k hi hk q x hx ⟨sub i hi x e1, c5 x e2⟩
  refine ⟨by omega, fun i hi => ?_, fun i j hi hj hne => ?_, ?_⟩
  · by_cases q : i = n
    · subst q
      rw [eAn, eBn]
      exact c2
    · by_cases q2 : i = k
      · subst q2
        rw [eAk, eBk]
        exact c1
      · rw [eAo i (by omega), eBo i (by omega) q2]
        exact h1 i (by omega)
  · by_cases q : i = n
    · subst q
      exact sym (dn j (by omega))
    · by_cases q2 : j = n
      · subst q2
        exact dn i (by omega)
      · rintro x hx ⟨e1, e2⟩
        exact h2 i j (by omega) (by omega) hne x hx ⟨sub i (by omega) x e1, sub j (by omega) x e2⟩
  · rw [fb_sm_succ, eAn, eBn]
    have e1 : fb_sm (fun i => sz (nA n k A B s i, nB n k A B s i)) n = fb_sm (fun i => if i = k then sz (A k, cutB (A k) (B k) s) else sz (A i, B i)) n := fb_sm_cong (fun i hi => by
      by_cases q : i = k
      · subst q
        rw [if_pos rfl, eAk, eBk]
      · rw [if_neg q, eAo i hi, eBo i hi q])
    have e2 := fb_sm_upd (fun i => sz (A i, B i)) (sz (A k, cutB (A k) (B k) s)) hk
    simp only at e2
    omega
/-- the two hold the same rectangles -/
def HX (n : Nat) (A B : Nat → Nat) (f l : Nat → Int32) : Prop := ∀ i, i < n → f i = nI (A i) ∧ l i = nI (B i)
def HM (n : Nat) (A B : Nat → Nat) (c : Nat → Int32) : Prop := ∀ i, i < n → c (4 * i) = nI (A i / 7) ∧ c (4 * i + 1) = nI (A i % 7) ∧ c (4 * i + 2) = nI (B i / 7) ∧ c (4 * i + 3) = nI (B i % 7)
theorem m4 (k : Nat) : (4 : Int32) * nI k = nI (4 * k) := by rw [show (4 : Int32) = nI 4 from rfl, pk_mul]
theorem rd168 {c : Nat → Int32} {i : Nat} (h : i < 168) : o_rd 168 c (nI i) = some (c i) := o_rd_s h (by decide)
theorem wr168 {c : Nat → Int32} {i : Nat} {v : Int32} (h : i < 168) : o_wrI 168 c (nI i) v = some (upd c i v) := o_wrI_s h (by decide)
theorem area_s {n : Nat} {A B : Nat → Nat} {c : Nat → Int32} (hc : HM n A B c) {k : Nat} (hk : k < n) (hn : n ≤ 42) (hr : RC (A k) (B k)) : fM_area (nI (4 * k)) c = some (nI (sz (A k, B k))) := by
  obtain ⟨c0, c1, c2, c3⟩ := hc k hk
  have hr' := hr
  unfold RC at hr'
  unfold fM_area
  rw [show (1 : Int32) = nI 1 from rfl, show (2 : Int32) = nI 2 from rfl, show (3 : Int32) = nI 3 from rfl, nI_add, nI_add, nI_add, rd168 (by omega), rd168 (by omega), rd168 (by omega), rd168 (by omega)]
  simp only [Option.bind_some]
  rw [c0, c1, c2, c3, pk_sub hr'.2.2.1, pk_sub hr'.2.2.2, nI_add, nI_add, pk_mul, sz_e hr]
theorem putX {n : Nat} (hn : n < 42) (x y : Int32) (f l : Nat → Int32) : fMaker_put x y (nI n) f l = some (upd f n x, upd l n y, nI (n + 1)) := by
  unfold fMaker_put
  rw [if_neg (nI_pos (by omega)), if_neg (ge42 hn), o_wrI_s hn (by decide), o_wrI_s hn (by decide), Option.bind_some, Option.bind_some, nI_1]
theorem cutX {n : Nat} {A B : Nat → Nat} (h : QC n A B) {k : Nat} (hk : k < n) (h6 : 6 < sz (A k, B k)) {s : Nat} (hs : s < 2147483648) {f l : Nat → Int32} (hX : HX n A B f l) : ∃ f' l', fMaker_cut (nI k) f l (lN s) (nI n) = some (lN (ns s), l', f', nI (n + 1)) ∧ HX (n + 1) (nA n k A B s) (nB n k A B s) f' l' := by
  have hn := h.room hk h6
  have hr := h.2.1 k hk
  have hr' := hr
  unfold RC at hr'
  rw [sz_e hr] at h6
  obtain ⟨x1, x2⟩ := hX k hk
  have e1 : o_rd 42 f (nI k) = some (nI (A k)) := by rw [o_rd_s (by omega) (by decide), x1]
  have e2 : o_rd 42 l (nI k) = some (nI (B k)) := by rw [o_rd_s (by omega) (by decide), x2]
  have e3 : fX_rowsOf (nI (A k)) (nI (B k)) = some (nI (B k / 7 - A k / 7 + 1)) := by
    unfold fX_rowsOf
    rw [nI_d7 (by omega), nI_d7 (by omega), pk_sub hr'.2.2.1, nI_1]
  have e4 : fX_columnsOf (nI (A k)) (nI (B k)) = some (nI (B k % 7 - A k % 7 + 1)) := by
    unfold fX_columnsOf
    rw [nI_r7 (by omega), nI_r7 (by omega), pk_sub hr'.2.2.2, nI_1]
  have fin : ∀ (l1 : Nat → Int32) (z : Nat), l1 = upd l k (nI (cutB (A k) (B k) s)) → z = cutA (A k) (B k) s → HX (n + 1) (nA n k A B s) (nB n k A B s) (upd f n (nI z)) (upd l1 n (nI (B k))) := by
    rintro l1 z rfl rfl i hi
    by_cases q : i = n
    · subst q
      rw [upd_at, upd_at]
      exact ⟨congrArg nI (if_pos rfl).symm, congrArg nI (if_pos rfl).symm⟩
    · have hi2 : i < n := by omega
      rw [upd_off _ _ q, upd_off _ _ q]
      refine ⟨((hX i hi2).1).trans (congrArg nI (if_neg q).symm), ?_⟩
      unfold nB
      rw [if_neg q]
      by_cases q2 : i = k
      · subst q2
        rw [upd_at, if_pos rfl]
      · rw [upd_off _ _ q2, if_neg q2]
        exact (hX i hi2).2
  have p1 : ¬ nI k < 0 := nI_pos (by omega)
  have p2 : nI k < (42 : Int32) := nI_lt (b := 42) (by omega) (by decide)
  by_cases q : B k / 7 - A k / 7 + 1 ≤ B k % 7 - A k % 7 + 1
  · have hc : 0 < B k % 7 - A k % 7 := by
      apply Nat.pos_of_ne_zero
      intro z
      rw [z] at h6 q
      have : B k / 7 - A k / 7 = 0 := by omega
      rw [this] at h6
      omega
    have e5 : nI (B k / 7 - A k / 7 + 1) ≤ nI (B k % 7 - A k % 7 + 1) := nI_le q (by omega)
    have e6 : fMaker_drawBelow (nI (B k % 7 - A k % 7)) (lN s) = some (nI (dr (B k % 7 - A k % 7) s), lN (ns s)) := drawX hc (by omega) hs
    have hd := dr_lt (s := s) hc
    have e7 : fX_cellAt (nI (B k) / 7) (((nI (A k) - nI (A k) / 7 * 7) + nI (dr (B k % 7 - A k % 7) s + 1)) - 1) = some (nI (cutB (A k) (B k) s)) := by
      unfold fX_cellAt cutB
      rw [nI_r7 (by omega), nI_d7 (by omega), if_pos q, nI_add, ← Nat.add_assoc, nI_pred, show (7 : Int32) = nI 7 from rfl, pk_mul, nI_add, Nat.mul_comm]
    have e8 : nI (A k) + nI (dr (B k % 7 - A k % 7) s + 1) = nI (A k + (dr (B k % 7 - A k % 7) s + 1)) := nI_add _ _
    refine ⟨_, _, ?_, fin _ _ rfl rfl⟩
    unfold fMaker_cut
    simp only [p1, if_false, p2, if_true, e1, e2, e3, e4, e5, Option.bind_some, nI_pred, e6, nI_1, e7, o_wrI_s (show k < 42 by omega) (show 42 < 2 ^ 31 by decide), e8, putX hn]
    rw [show cutA (A k) (B k) s = A k + (dr (B k % 7 - A k % 7) s + 1) from if_pos q]
  · have hc : 0 < B k / 7 - A k / 7 := by omega
    have e5 : ¬ nI (B k / 7 - A k / 7 + 1) ≤ nI (B k % 7 - A k % 7 + 1) := nI_ge (by omega) (by omega)
    have e6 : fMaker_drawBelow (nI (B k / 7 - A k / 7)) (lN s) = some (nI (dr (B k / 7 - A k / 7) s), lN (ns s)) := drawX hc (by omega) hs
    have hd := dr_lt (s := s) hc
    have e7 : fX_cellAt ((nI (A k) / 7 + nI (dr (B k / 7 - A k / 7) s + 1)) - 1) (nI (B k) - nI (B k) / 7 * 7) = some (nI (cutB (A k) (B k) s)) := by
      unfold fX_cellAt cutB
      rw [nI_r7 (by omega), nI_d7 (by omega), if_neg q, nI_add, ← Nat.add_assoc, nI_pred, show (7 : Int32) = nI 7 from rfl, pk_mul, nI_add, Nat.mul_comm]
    have e8 : nI (A k) + nI (dr (B k / 7 - A k / 7) s + 1) * 7 = nI (A k + 7 * (dr (B k / 7 - A k / 7) s + 1)) := by
      rw [show (7 : Int32) = nI 7 from rfl, pk_mul, nI_add, Nat.mul_comm]
    refine ⟨_, _, ?_, fin _ _ rfl rfl⟩
    unfold fMaker_cut
    simp only [p1, if_false, p2, if_true, e1, e2, e3, e4, e5, Option.bind_some, nI_pred, e6, nI_1, e7, o_wrI_s (show k < 42 by omega) (show 42 < 2 ^ 31 by decide), e8, putX hn]
    rw [show cutA (A k) (B k) s = A k + 7 * (dr (B k / 7 - A k / 7) s + 1) from if_neg q]
theorem copy4 {F : Nat} (hF : 42 < F) {n k : Nat} (hk : k < n) (hn : n < 42) (c : Nat → Int32) : ∃ c', fM_makes_L143 F (nI n) (nI (4 * k)) F 0 c = some (nI 4, c') ∧ (∀ j, j < 4 → c' (4 * n + j) = c (4 * k + j)) ∧ ∀ i, (i < 4 * n ∨ 4 * n + 4 ≤ i) → c' i = c i := by
  obtain ⟨x, hx, e⟩ := lp0 (F := F) 4 (by omega) (fun N i (x : Nat → Int32) => fM_makes_L143 F (nI n) (nI (4 * k)) N (nI i) x) (fun x => (nI 4, x)) (fun i x => (∀ j, j < i → x (4 * n + j) = c (4 * k + j)) ∧ ∀ j, (j < 4 * n ∨ 4 * n + 4 ≤ j) → x j = c j) (a := c) ⟨fun j hj => by omega, fun j _ => rfl⟩
    (fun i x hi hx => by
      have e1 : ¬ (4 : Int32) ≤ nI i := nI_ge (b := 4) hi (by decide)
      refine ⟨upd x (4 * n + i) (c (4 * k + i)), ⟨fun j hj => ?_, fun j hj => ?_⟩, fun N => ?_⟩
      · by_cases q : j = i
        · subst q; exact upd_at _ _ _
        · rw [upd_off _ _ (by omega)]; exact hx.1 j (by omega)
      · rw [upd_off _ _ (by omega)]; exact hx.2 j hj
      · have hxk : x (4 * k + i) = c (4 * k + i) := hx.2 _ (by omega)
        simp only [fM_makes_L143, e1, if_false, nI_add, m4, rd168 (show 4 * k + i < 168 by omega), wr168 (show 4 * n + i < 168 by omega), hxk, Option.bind_some, nI_1])
    (fun N x hx => by simp only [fM_makes_L143, show (4 : Int32) ≤ nI 4 from Int32.le_refl _, if_true])
  try rw [nI_0] at e
  exact ⟨x, e, hx⟩
theorem cutM {F : Nat} (hF : 42 < F) {n : Nat} {A B : Nat → Nat} (h : QC n A B) {k : Nat} (hk : k < n) (h6 : 6 < sz (A k, B k)) {s : Nat} (hs : s < 2147483648) {c : Nat → Int32} (hM : HM n A B c) : ∃ c', (∀ N, fM_makes_L39 F (N + 1) (nI n) (nI k) c (lN s) = fM_makes_L39 F N (nI (n + 1)) (nI k) c' (lN (ns s))) ∧ HM (n + 1) (nA n k A B s) (nB n k A B s) c' := by
  have hn := h.room hk h6
  have hr := h.2.1 k hk
  have hr' := hr
  unfold RC at hr'
  have ea := area_s hM hk (by omega) hr
  have e0 : ¬ nI (sz (A k, B k)) ≤ (6 : Int32) := nI_ge (a := 6) h6 (by have := sz_le (A k, B k); omega)
  have en : ¬ nI n ≤ nI k := nI_ge hk (by omega)
  obtain ⟨c0, c1, c2, c3⟩ := hM k hk
  have e1 : o_rd 168 c (nI (4 * k + 2)) = some (nI (B k / 7)) := by rw [rd168 (by omega), c2]
  have e2 : o_rd 168 c (nI (4 * k)) = some (nI (A k / 7)) := by rw [rd168 (by omega), c0]
  have e3 : o_rd 168 c (nI (4 * k + 3)) = some (nI (B k % 7)) := by rw [rd168 (by omega), c3]
  have e4 : o_rd 168 c (nI (4 * k + 1)) = some (nI (A k % 7)) := by rw [rd168 (by omega), c1]
  have a2 : nI (4 * k) + (2 : Int32) = nI (4 * k + 2) := nI_add _ 2
  have a3 : nI (4 * k) + (3 : Int32) = nI (4 * k + 3) := nI_add _ 3
  have a1 : nI (4 * k) + (1 : Int32) = nI (4 * k + 1) := nI_1 _
  have d1 : nI (B k / 7) - nI (A k / 7) = nI (B k / 7 - A k / 7) := pk_sub hr'.2.2.1
  have d2 : nI (B k % 7) - nI (A k % 7) = nI (B k % 7 - A k % 7) := pk_sub hr'.2.2.2
  obtain ⟨x, ex, hx1, hx2⟩ := copy4 hF hk hn c
  have y0 := hx1 0 (by decide)
  have y1 := hx1 1 (by decide)
  have y2 := hx1 2 (by decide)
  have y3 := hx1 3 (by decide)
  rw [Nat.add_zero, Nat.add_zero, c0] at y0
  rw [c1] at y1
  rw [c2] at y2
  rw [c3] at y3
  have xk : ∀ j, j < 4 → x (4 * k + j) = c (4 * k + j) := fun j hj => hx2 _ (by omega)
  have h6' := h6
  rw [sz_e hr] at h6'
  have fin : ∀ (c' : Nat → Int32), (∀ i, i < n → i ≠ k → c' (4 * i) = c (4 * i) ∧ c' (4 * i + 1) = c (4 * i + 1) ∧ c' (4 * i + 2) = c (4 * i + 2) ∧ c' (4 * i + 3) = c (4 * i + 3)) → (c' (4 * k) = nI (A k / 7) ∧ c' (4 * k + 1) = nI (A k % 7) ∧ c' (4 * k + 2) = nI (cutB (A k) (B k) s / 7) ∧ c' (4 * k + 3) = nI (cutB (A k) (B k) s % 7)) → (c' (4 * n) = nI (cutA (A k) (B k) s / 7) ∧ c' (4 * n + 1) = nI (cutA (A k) (B k) s % 7) ∧ c' (4 * n + 2) = nI (B k / 7) ∧ c' (4 * n + 3) = nI (B k % 7)) → HM (n + 1) (nA n k A B s) (nB n k A B s) c' := fun c' w1 w2 w3 i hi => by
    unfold nA nB
    by_cases q : i = n
    · subst q
      rw [if_pos rfl, if_pos rfl]
      exact w3
    · rw [if_neg q, if_neg q]
      by_cases q2 : i = k
      · subst q2
        rw [if_pos rfl]
        exact w2
      · rw [if_neg q2]
        obtain ⟨v0, v1, v2, v3⟩ := w1 i (by omega) q2
        rw [v0, v1, v2, v3]
        exact hM i (by omega)
  by_cases q : B k / 7 - A k / 7 + 1 ≤ B k % 7 - A k % 7 + 1
  · have hc : 0 < B k % 7 - A k % 7 := by
      apply Nat.pos_of_ne_zero
      intro z
      rw [z] at h6' q
      have : B k / 7 - A k / 7 = 0 := by omega
      rw [this] at h6'
      omega
    have hd := dr_lt (s := s) hc
    have e5 : nI (B k / 7 - A k / 7 + 1) ≤ nI (B k % 7 - A k % 7 + 1) := nI_le q (by omega)
    have e6 : fM_drawn (nI (B k % 7 - A k % 7)) (lN s) = some (nI (dr (B k % 7 - A k % 7) s), lN (ns s)) := drawM hc (by omega) hs
    have eB : cutB (A k) (B k) s = 7 * (B k / 7) + (A k % 7 + dr (B k % 7 - A k % 7) s) := if_pos q
    have eA : cutA (A k) (B k) s = A k + (dr (B k % 7 - A k % 7) s + 1) := if_pos q
    generalize dr (B k % 7 - A k % 7) s = d at hd e6 eB eA
    have r1 : o_rd 168 x (nI (4 * k + 1)) = some (nI (A k % 7)) := by rw [rd168 (by omega), xk 1 (by decide), c1]
    have b1 : (1 : Int32) + nI d = nI (1 + d) := nI_add 1 d
    have b2 : (nI (A k % 7) + nI (1 + d)) - 1 = nI (A k % 7 + d) := by
      rw [nI_add, show A k % 7 + (1 + d) = (A k % 7 + d) + 1 by omega, nI_pred]
    have b3 : nI (4 * k + 2) + 1 = nI (4 * k + 3) := nI_1 _
    have b4 : o_rd 168 (upd x (4 * k + 3) (nI (A k % 7 + d))) (nI (4 * k + 1)) = some (nI (A k % 7)) := by rw [rd168 (by omega), upd_off _ _ (by omega), xk 1 (by decide), c1]
    have b5 : nI (A k % 7) + nI (1 + d) = nI (A k % 7 + (1 + d)) := nI_add _ _
    have b6 : nI (4 * n) + 1 = nI (4 * n + 1) := nI_1 _
    refine ⟨upd (upd x (4 * k + 3) (nI (A k % 7 + d))) (4 * n + 1) (nI (A k % 7 + (1 + d))), fun N => ?_, fin _ (fun i hi q2 => ?_) ⟨?_, ?_, ?_, ?_⟩ ⟨?_, ?_, ?_, ?_⟩⟩
    · simp only [fM_makes_L39, en, if_false, m4, ea, Option.bind_some, e0, a1, a2, a3, e1, e2, e3, e4, d1, d2, nI_1, e5, if_true, show ¬ (1 : Int32) = 0 by decide, not_false_eq_true, nI_pred, e6, ex, r1, b1, b2, b3, wr168 (show 4 * k + 3 < 168 by omega), b4, b5, b6, wr168 (show 4 * n + 1 < 168 by omega)]
    · rw [upd_off _ _ (by omega), upd_off _ _ (by omega), upd_off _ _ (by omega), upd_off _ _ (by omega), upd_off _ _ (by omega), upd_off _ _ (by omega), upd_off _ _ (by omega), upd_off _ _ (by omega)]
      exact ⟨hx2 _ (by omega), hx2 _ (by omega), hx2 _ (by omega), hx2 _ (by omega)⟩
    · rw [upd_off _ _ (by omega), upd_off _ _ (by omega), hx2 _ (by omega), c0]
    · rw [upd_off _ _ (by omega), upd_off _ _ (by omega), xk 1 (by decide), c1]
    · rw [upd_off _ _ (by omega), upd_off _ _ (by omega), xk 2 (by decide), c2, eB]
      exact congrArg nI (by omega)
    · rw [upd_off _ _ (by omega), upd_at, eB]
      exact congrArg nI (by omega)
    · rw [upd_off _ _ (by omega), upd_off _ _ (by omega), y0, eA]
      exact congrArg nI (by omega)
    · rw [upd_at, eA]
      exact congrArg nI (by omega)
    · rw [upd_off _ _ (by omega), upd_off _ _ (by omega), y2]
    · rw [upd_off _ _ (by omega), upd_off _ _ (by omega), y3]
  · have hc : 0 < B k / 7 - A k / 7 := by omega
    have hd := dr_lt (s := s) hc
    have e5 : ¬ nI (B k / 7 - A k / 7 + 1) ≤ nI (B k % 7 - A k % 7 + 1) := nI_ge (by omega) (by omega)
    have e6 : fM_drawn (nI (B k / 7 - A k / 7)) (lN s) = some (nI (dr (B k / 7 - A k / 7) s), lN (ns s)) := drawM hc (by omega) hs
    have eB : cutB (A k) (B k) s = 7 * (A k / 7 + dr (B k / 7 - A k / 7) s) + B k % 7 := if_neg q
    have eA : cutA (A k) (B k) s = A k + 7 * (dr (B k / 7 - A k / 7) s + 1) := if_neg q
    generalize dr (B k / 7 - A k / 7) s = d at hd e6 eB eA
    have r1 : o_rd 168 x (nI (4 * k)) = some (nI (A k / 7)) := by rw [rd168 (by omega), hx2 _ (by omega), c0]
    have b1 : (1 : Int32) + nI d = nI (1 + d) := nI_add 1 d
    have b2 : (nI (A k / 7) + nI (1 + d)) - 1 = nI (A k / 7 + d) := by
      rw [nI_add, show A k / 7 + (1 + d) = (A k / 7 + d) + 1 by omega, nI_pred]
    have b4 : o_rd 168 (upd x (4 * k + 2) (nI (A k / 7 + d))) (nI (4 * k)) = some (nI (A k / 7)) := by rw [rd168 (by omega), upd_off _ _ (by omega), hx2 _ (by omega), c0]
    have b5 : nI (A k / 7) + nI (1 + d) = nI (A k / 7 + (1 + d)) := nI_add _ _
    refine ⟨upd (upd x (4 * k + 2) (nI (A k / 7 + d))) (4 * n) (nI (A k / 7 + (1 + d))), fun N => ?_, fin _ (fun i hi q2 => ?_) ⟨?_, ?_, ?_, ?_⟩ ⟨?_, ?_, ?_, ?_⟩⟩
    · simp only [fM_makes_L39, en, if_false, m4, ea, Option.bind_some, e0, a1, a2, a3, e1, e2, e3, e4, d1, d2, nI_1, e5, if_true, not_true_eq_false, nI_pred, e6, ex, Int32.add_zero, r1, b1, b2, wr168 (show 4 * k + 2 < 168 by omega), b4, b5, wr168 (show 4 * n < 168 by omega)]
    · rw [upd_off _ _ (by omega), upd_off _ _ (by omega), upd_off _ _ (by omega), upd_off _ _ (by omega), upd_off _ _ (by omega), upd_off _ _ (by omega), upd_off _ _ (by omega), upd_off _ _ (by omega)]
      exact ⟨hx2 _ (by omega), hx2 _ (by omega), hx2 _ (by omega), hx2 _ (by omega)⟩
    · rw [upd_off _ _ (by omega), upd_off _ _ (by omega), hx2 _ (by omega), c0]
    · rw [upd_off _ _ (by omega), upd_off _ _ (by omega), xk 1 (by decide), c1]
    · rw [upd_off _ _ (by omega), upd_at, eB]
      exact congrArg nI (by omega)
    · rw [upd_off _ _ (by omega), upd_off _ _ (by omega), xk 3 (by decide), c3, eB]
      exact congrArg nI (by omega)
    · rw [upd_at, eA]
      exact congrArg nI (by omega)
    · rw [upd_off _ _ (by omega), upd_off _ _ (by omega), y1, eA]
      exact congrArg nI (by omega)
    · rw [upd_off _ _ (by omega), upd_off _ _ (by omega), y2]
    · rw [upd_off _ _ (by omega), upd_off _ _ (by omega), y3]
theorem largeX {F : Nat} (hF : 42 < F) {n : Nat} {A B : Nat → Nat} (h : QC n A B) {f l : Nat → Int32} (hX : HX n A B f l) {k : Nat} (hk : k ≤ n) (hs : ∀ i, i < k → sz (A i, B i) ≤ 6) (hl : k = n ∨ 6 < sz (A k, B k)) : fMaker_firstLarge F (nI n) f l = some (if k = n then -1 else nI k) := by
  have hn := h.le
  obtain ⟨z, hz, e⟩ := lsr n (fun N i (_ : Unit) => fMaker_firstLarge_L2 F (nI n) f l N (nI i)) (fun i _ => i ≤ k) (fun z => z = (if k = n then -1 else nI k))
    (fun i _ hi hik => by
      have e1 : ¬ nI n ≤ nI i := nI_ge hi (by omega)
      have e2 : ¬ (42 : Int32) ≤ nI i := ge42 (by omega)
      have e3 : o_rd 42 f (nI i) = some (nI (A i)) := by rw [o_rd_s (by omega) (by decide), (hX i hi).1]
      have e4 : o_rd 42 l (nI i) = some (nI (B i)) := by rw [o_rd_s (by omega) (by decide), (hX i hi).2]
      have e5 : fX_sizeOf (nI (A i)) (nI (B i)) = some (nI (sz (A i, B i))) := sizeOf_s (h.2.1 i hi)
      have hz := sz_le (A i, B i)
      by_cases q : i = k
      · subst q
        have h6 : 6 < sz (A i, B i) := hl.resolve_left (by omega)
        refine Or.inl ⟨nI i, by rw [if_neg (by omega)], fun N => ?_⟩
        have e6 : ¬ nI (sz (A i, B i)) ≤ (6 : Int32) := nI_ge (a := 6) h6 (by omega)
        simp only [fMaker_firstLarge_L2, e1, e2, if_false, e3, e4, Option.bind_some, e5, e6]
      · have h6 := hs i (by omega)
        refine Or.inr ⟨(), by omega, fun N => ?_⟩
        have e6 : nI (sz (A i, B i)) ≤ (6 : Int32) := nI_le (b := 6) h6 (by decide)
        simp only [fMaker_firstLarge_L2, e1, e2, if_false, e3, e4, Option.bind_some, e5, e6, if_true, nI_1])
    (fun N _ hnk => by
      have : k = n := by omega
      subst this
      exact ⟨-1, by rw [if_pos rfl], by simp only [fMaker_firstLarge_L2, Int32.le_refl, if_true]⟩) n 0 F () (Nat.zero_add _) (by omega) (Nat.zero_le _)
  unfold fMaker_firstLarge
  try rw [nI_0] at e
  rw [e, hz]
/-- both cut to the end, alike -/
theorem cuts_s {F : Nat} (hF : 1000 < F) : ∀ (P n k s : Nat) (A B : Nat → Nat), 84 - n - k ≤ P → QC n A B → k ≤ n → s < 2147483648 → (∀ i, i < k → sz (A i, B i) ≤ 6) → ∀ (f l c : Nat → Int32), HX n A B f l → HM n A B c → ∀ N M, 84 - n - k < M → 42 - n < N → ∃ (n' s' : Nat) (A' B' : Nat → Nat) (f' l' c' : Nat → Int32), QC n' A' B' ∧ s' < 2147483648 ∧ (∀ i, i < n' → sz (A' i, B' i) ≤ 6) ∧ HX n' A' B' f' l' ∧ HM n' A' B' c' ∧ fMaker_cutAll_L2 F N (nI (n - 1)) (nI n) f l (lN s) = some (lN s', l', f', nI n') ∧ fM_makes_L39 F M (nI n) (nI k) c (lN s) = some (nI n', nI n', c', lN s') := by
  intro P
  induction P with
  | zero =>
    intro n k s A B hP hQ hk hs hsm f l c hX hM N M hMM hN
    have := hQ.le
    have e1 : n = 42 := by omega
    have e2 : k = 42 := by omega
    obtain ⟨M', rfl⟩ : ∃ M', M = M' + 1 := ⟨M - 1, by omega⟩
    obtain ⟨N', rfl⟩ : ∃ N', N = N' + 1 := ⟨N - 1, by omega⟩
    subst e1
    subst e2
    refine ⟨42, s, A, B, f, l, c, hQ, hs, hsm, hX, hM, ?_, ?_⟩
    · have e3 := largeX (F := F) (by omega) hQ hX (Nat.le_refl 42) hsm (Or.inl rfl)
      rw [if_pos rfl] at e3
      simp only [fMaker_cutAll_L2, show ¬ (42 : Int32) ≤ nI (42 - 1) by decide, if_false, e3, Option.bind_some, show ¬ (0 : Int32) ≤ -1 by decide]
    · simp only [fM_makes_L39, Int32.le_refl, if_true]
  | succ P ih =>
    intro n k s A B hP hQ hk hs hsm f l c hX hM N M hMM hN
    have hn := hQ.le
    have hn0 := hQ.1
    obtain ⟨M', rfl⟩ : ∃ M', M = M' + 1 := ⟨M - 1, by omega⟩
    obtain ⟨N', rfl⟩ : ∃ N', N = N' + 1 := ⟨N - 1, by omega⟩
    have et : ¬ (42 : Int32) ≤ nI (n - 1) := ge42 (by omega)
    by_cases q : k = n
    · subst q
      refine ⟨k, s, A, B, f, l, c, hQ, hs, hsm, hX, hM, ?_, ?_⟩
      · have e3 := largeX (F := F) (by omega) hQ hX (Nat.le_refl k) hsm (Or.inl rfl)
        rw [if_pos rfl] at e3
        simp only [fMaker_cutAll_L2, et, if_false, e3, Option.bind_some, show ¬ (0 : Int32) ≤ -1 by decide]
      · simp only [fM_makes_L39, Int32.le_refl, if_true]
    · have hkn : k < n := by omega
      by_cases q6 : sz (A k, B k) ≤ 6
      · obtain ⟨n', s', A', B', f', l', c', g1, g2, g3, g4, g5, g6, g7⟩ := ih n (k + 1) s A B (by omega) hQ hkn hs (fun i hi => by
          by_cases e : i = k
          · subst e; exact q6
          · exact hsm i (by omega)) f l c hX hM (N' + 1) M' (by omega) hN
        refine ⟨n', s', A', B', f', l', c', g1, g2, g3, g4, g5, g6, ?_⟩
        have ea := area_s hM hkn hn (hQ.2.1 k hkn)
        have e0 : nI (sz (A k, B k)) ≤ (6 : Int32) := nI_le (b := 6) q6 (by decide)
        have en : ¬ nI n ≤ nI k := nI_ge hkn (by omega)
        simp only [fM_makes_L39, en, if_false, m4, ea, Option.bind_some, e0, if_true, nI_1]
        exact g7
      · have h6 : 6 < sz (A k, B k) := by omega
        have hr := hQ.room hkn h6
        obtain ⟨f1, l1, e1, hX1⟩ := cutX hQ hkn h6 hs hX
        obtain ⟨c1, e2, hM1⟩ := cutM (F := F) (by omega) hQ hkn h6 hs hM
        obtain ⟨n', s', A', B', f', l', c', g1, g2, g3, g4, g5, g6, g7⟩ := ih (n + 1) k (ns s) _ _ (by omega) (hQ.cut hkn h6 s) (by omega) (ns_lt s) (fun i hi => by
          have a1 : nA n k A B s i = A i := if_neg (by omega)
          have a2 : nB n k A B s i = B i := by unfold nB; rw [if_neg (by omega), if_neg (by omega)]
          rw [a1, a2]
          exact hsm i hi) f1 l1 c1 hX1 hM1 N' M' (by omega) (by omega)
        refine ⟨n', s', A', B', f', l', c', g1, g2, g3, g4, g5, ?_, ?_⟩
        · have e3 := largeX (F := F) (by omega) hQ hX hk hsm (Or.inr h6)
          rw [if_neg q] at e3
          have e4 : nI (n - 1) + 1 = nI (n + 1 - 1) := by rw [nI_1]; exact congrArg nI (by omega)
          simp only [fMaker_cutAll_L2, et, if_false, e3, Option.bind_some, nI_pos' (show k < 2 ^ 31 by omega), if_true, e1, e4]
          exact g6
        · rw [e2]
          exact g7
theorem remI {a d : Nat} (ha : a < 2 ^ 31) (h0 : 0 < d) (hd : d < 2 ^ 31) : o_remI (nI a) (nI d) = some (nI (a % d)) := by
  unfold o_remI
  rw [if_neg (nI_ne0 h0 hd), pk_rem ha h0 hd]
/-- the cell that gets a rectangle's number -/
def cin (a b p : Nat) : Nat := a + 7 * (p / (b % 7 - a % 7 + 1)) + p % (b % 7 - a % 7 + 1)
theorem cin_in {a b p : Nat} (h : RC a b) (hp : p < sz (a, b)) : inb a b (cin a b p) = true ∧ cin a b p < 42 := by
  rw [sz_e h] at hp
  have h1 : p / (b % 7 - a % 7 + 1) < b / 7 - a / 7 + 1 := (Nat.div_lt_iff_lt_mul (by omega)).mpr hp
  have h2 : p % (b % 7 - a % 7 + 1) < b % 7 - a % 7 + 1 := Nat.mod_lt _ (by omega)
  have h' := h
  unfold RC at h'
  rw [inb_iff]
  unfold IN cin
  omega
def NB (n : Nat) (A B : Nat → Nat) (i : Nat) (nu s : Nat → Int32) : Prop := (∀ k, k < 42 → (∃ v, v ≤ 20 ∧ nu k = nI v) ∧ s k = nu k) ∧ (∀ k, k < 42 → nu k ≠ 0 → ∃ j, j < i ∧ inb (A j) (B j) k = true) ∧ fb_ct (fun k => decide (nu k ≠ 0)) 42 = i ∧ ∀ k, k < 42 → s (42 + k) = 0
theorem makes_s {F : Nat} (hF : 1000 < F) {sd : Nat} (hsd : sd < 2 ^ 31) (iF nu0 : Nat → Int32) (x0 : Int64) (c0 : Int32) (f0 l0 : Nat → Int32) (ms0 : Int64) (cu0 s0 : Nat → Int32) : ∃ (iF' nu' : Nat → Int32) (x' : Int64) (c' : Int32) (l' f' : Nat → Int32) (n : Nat) (ms' : Int64) (cu' s' : Nat → Int32), fMaker_writeNumbers F (nI sd) iF nu0 x0 c0 f0 l0 = some (iF', nu', x', c', f', l') ∧ fM_makes F (nI sd) ms0 cu0 s0 = some (nI n, ms', cu', s') ∧ fb_ct (fun k => decide (nu' k ≠ 0)) 42 = n ∧ ∀ fi la, BR nu' iF' fi la s' 0 := by
  have hQ0 : QC 1 (fun _ => 0) (fun _ => 41) := ⟨by decide, fun i _ => by unfold RC; decide, fun i j hi hj hne => by omega, by decide +kernel⟩
  obtain ⟨iF', e1, h1⟩ := removeFields_s (F := F) (by omega) iF
  obtain ⟨nu1, hnu1, e2⟩ := lp0 (F := F) 42 (by omega) (fun N i (t : Nat → Int32) => fBoard_removeNumbers_L2 F N (nI i) t) (fun t => (nI 42, t)) (fun i t => ∀ k, k < i → t k = 0) (a := nu0) (fun k hk => by omega)
    (fun i t hi ht => by
      refine ⟨upd t i 0, fun k hk => ?_, fun N => ?_⟩
      · by_cases q : k = i
        · subst q; exact upd_at _ _ _
        · rw [upd_off _ _ q]; exact ht k (by omega)
      · simp only [fBoard_removeNumbers_L2, ge42 hi, if_false, o_wrI_s hi (show 42 < 2 ^ 31 by decide), Option.bind_some, nI_1])
    (fun N t ht => by simp only [fBoard_removeNumbers_L2, le42, if_true])
  obtain ⟨s1, hs1, e3⟩ := lp0 (F := F) 84 (by omega) (fun N i (t : Nat → Int32) => fM_makes_L242 F N (nI i) t) (fun t => (nI 84, t)) (fun i t => ∀ k, k < i → t k = 0) (a := s0) (fun k hk => by omega)
    (fun i t hi ht => by
      refine ⟨upd t i 0, fun k hk => ?_, fun N => ?_⟩
      · by_cases q : k = i
        · subst q; exact upd_at _ _ _
        · rw [upd_off _ _ q]; exact ht k (by omega)
      · simp only [fM_makes_L242, show ¬ (84 : Int32) ≤ nI i from nI_ge (b := 84) hi (by decide), if_false, o_wrI_s hi (show 84 < 2 ^ 31 by decide), Option.bind_some, nI_1])
    (fun N t ht => by simp only [fM_makes_L242, show (84 : Int32) ≤ nI 84 from Int32.le_refl _, if_true])
  have eP : fMaker_put (0 : Int32) (41 : Int32) (0 : Int32) f0 l0 = some (upd f0 0 0, upd l0 0 41, nI 1) := putX (n := 0) (by decide) 0 41 f0 l0
  have hX0 : HX 1 (fun _ => 0) (fun _ => 41) (upd f0 0 0) (upd l0 0 41) := fun i hi => by
    have : i = 0 := by omega
    subst this
    exact ⟨upd_at _ _ _, upd_at _ _ _⟩
  have hM0 : HM 1 (fun _ => 0) (fun _ => 41) (upd (upd (upd (upd cu0 0 0) 1 0) 2 5) 3 6) := fun i hi => by
    have : i = 0 := by omega
    subst this
    refine ⟨?_, ?_, ?_, ?_⟩
    · rw [upd_off _ _ (by decide), upd_off _ _ (by decide), upd_off _ _ (by decide)]; exact upd_at _ _ _
    · rw [upd_off _ _ (by decide), upd_off _ _ (by decide)]; exact upd_at _ _ _
    · rw [upd_off _ _ (by decide)]; exact upd_at _ _ _
    · exact upd_at _ _ _
  obtain ⟨n, s', A, B, f, l, c, hQ, hs', hsm, hX, hM, eX, eM⟩ := cuts_s hF 83 1 0 sd _ _ (by omega) hQ0 (by omega) (by omega) (fun i hi => by omega) _ _ _ hX0 hM0 F F (by omega) (by omega)
  have hn := hQ.le
  obtain ⟨y, ⟨sy, hsy, hy1, hNB, hy2⟩, eY⟩ := lp0 (F := F) n (by omega) (fun N i (y : (Int64 × (Nat → Int32)) × (Nat → Int32)) => (fMaker_writeNumbers_L32 F (nI n) f l N (nI i) y.1.1 y.1.2).bind fun u => (fM_makes_L266 F (nI n) c N (nI i) y.1.1 y.2).bind fun v => some (u, v)) (fun y => ((nI n, y.1), (nI n, y.1.1, y.2))) (fun i y => ∃ sy, sy < 2147483648 ∧ y.1.1 = lN sy ∧ NB n A B i y.1.2 y.2 ∧ True) (a := ((lN s', nu1), s1)) ⟨s', hs', rfl, ⟨fun k hk => ⟨⟨0, by decide, hnu1 k hk⟩, by rw [hs1 k (by omega), hnu1 k hk]⟩, fun k hk h => absurd (hnu1 k hk) h, fb_ct_zero.mpr (fun k hk => decide_eq_false (not_not_intro (hnu1 k hk))), fun k hk => hs1 _ (by omega)⟩, trivial⟩
    (fun i y hi hy => by
      obtain ⟨sy, hsy, hy1, ⟨b1, b2, b3, b4⟩, -⟩ := hy
      obtain ⟨⟨x, nu⟩, s⟩ := y
      simp only at hy1 b1 b2 b3 b4
      subst hy1
      have hr := hQ.2.1 i hi
      have hr' := hr
      unfold RC at hr'
      have hz := sz_pos (r := (A i, B i)) hr
      have hz6 := hsm i hi
      obtain ⟨x1, x2⟩ := hX i hi
      obtain ⟨m0, m1, m2, m3⟩ := hM i hi
      have t1 : ¬ nI n ≤ nI i := nI_ge hi (by omega)
      have t2 : ¬ (42 : Int32) ≤ nI i := ge42 (by omega)
      have t3 : o_rd 42 f (nI i) = some (nI (A i)) := by rw [o_rd_s (by omega) (by decide), x1]
      have t4 : o_rd 42 l (nI i) = some (nI (B i)) := by rw [o_rd_s (by omega) (by decide), x2]
      have t5 : fX_sizeOf (nI (A i)) (nI (B i)) = some (nI (sz (A i, B i))) := sizeOf_s hr
      have t6 := drawX (s := sy) hz (by omega) hsy
      have t6' := drawM (s := sy) hz (by omega) hsy
      have hd := dr_lt (s := sy) hz
      generalize dr (sz (A i, B i)) sy = p at hd t6 t6'
      obtain ⟨w1, w2⟩ := cin_in hr hd
      have t7 : fMaker_cellInside (nI (A i)) (nI (B i)) (nI p) = some (nI (cin (A i) (B i) p)) := by
        unfold fMaker_cellInside fX_columnsOf
        rw [nI_r7 (by omega), nI_r7 (by omega), pk_sub hr'.2.2.2, nI_1, Option.bind_some, if_neg (nI_nle (by omega) (by omega)), nI_divn (by omega) (by omega) (by omega), remI (by omega) (by omega) (by omega), Option.bind_some, Option.bind_some, show (7 : Int32) = nI 7 from rfl, pk_mul, nI_add, nI_add]
        unfold cin
        rw [Nat.mul_comm 7]
      have t8 : fBoard_setNumber (nI (cin (A i) (B i) p)) (nI (sz (A i, B i))) nu = some (upd nu (cin (A i) (B i) p) (nI (sz (A i, B i)))) := by
        unfold fBoard_setNumber
        rw [fX_isCell_s w2, Option.bind_some, if_neg (by decide), o_wrI_s w2 (by decide)]
        rfl
      have ea := area_s hM hi hn hr
      have u1 : o_rd 168 c (nI (4 * i + 3)) = some (nI (B i % 7)) := by rw [rd168 (by omega), m3]
      have u2 : o_rd 168 c (nI (4 * i + 1)) = some (nI (A i % 7)) := by rw [rd168 (by omega), m1]
      have u3 : o_rd 168 c (nI (4 * i)) = some (nI (A i / 7)) := by rw [rd168 (by omega), m0]
      have a3 : nI (4 * i) + (3 : Int32) = nI (4 * i + 3) := nI_add _ 3
      have u4 : (((7 : Int32) * (nI (A i / 7) + nI (p / (B i % 7 - A i % 7 + 1)))) + nI (A i % 7)) + nI (p % (B i % 7 - A i % 7 + 1)) = nI (cin (A i) (B i) p) := by
        rw [nI_add, show (7 : Int32) = nI 7 from rfl, pk_mul, nI_add, nI_add]
        unfold cin
        exact congrArg nI (by omega)
      have u5 : (nI (B i % 7) - nI (A i % 7)) + 1 = nI (B i % 7 - A i % 7 + 1) := by rw [pk_sub hr'.2.2.2, nI_1]
      have u6 := nI_divn (a := p) (d := B i % 7 - A i % 7 + 1) (by omega) (by omega) (by omega)
      have u7 := remI (a := p) (d := B i % 7 - A i % 7 + 1) (by omega) (by omega) (by omega)
      have hfresh : nu (cin (A i) (B i) p) = 0 := by
        apply Classical.byContradiction
        intro q
        obtain ⟨j, hj, hjn⟩ := b2 _ w2 q
        exact hQ.2.2.1 j i (by omega) hi (by omega) _ w2 ⟨hjn, w1⟩
      have hnz : nI (sz (A i, B i)) ≠ 0 := nI_ne0 hz (by omega)
      refine ⟨((lN (ns sy), upd nu (cin (A i) (B i) p) (nI (sz (A i, B i)))), upd s (cin (A i) (B i) p) (nI (sz (A i, B i)))), ⟨ns sy, ns_lt sy, rfl, ⟨fun k hk => ?_, fun k hk hk0 => ?_, ?_, fun k hk => ?_⟩, trivial⟩, fun N => ?_⟩
      · by_cases q : k = cin (A i) (B i) p
        · subst q
          exact ⟨⟨sz (A i, B i), by omega, upd_at _ _ _⟩, (upd_at _ _ _).trans (upd_at _ _ _).symm⟩
        · simp only [upd_off _ _ q]
          exact b1 k hk
      · by_cases q : k = cin (A i) (B i) p
        · subst q
          exact ⟨i, by omega, w1⟩
        · simp only [upd_off _ _ q] at hk0
          obtain ⟨j, hj, hjn⟩ := b2 k hk hk0
          exact ⟨j, by omega, hjn⟩
      · have := fb_ct_upd (fun k => decide (nu k ≠ 0)) true w2
        rw [b3] at this
        have e : fb_ct (fun k => decide (upd nu (cin (A i) (B i) p) (nI (sz (A i, B i))) k ≠ 0)) 42 = fb_ct (fun k => if k = cin (A i) (B i) p then true else decide (nu k ≠ 0)) 42 := fb_ct_cong (fun k _ => by
          by_cases q : k = cin (A i) (B i) p
          · rw [if_pos q, q, upd_at, decide_eq_true hnz]
          · rw [if_neg q, upd_off _ _ q])
        show fb_ct (fun k => decide (upd nu (cin (A i) (B i) p) (nI (sz (A i, B i))) k ≠ 0)) 42 = i + 1
        rw [e]
        simp only [hfresh, ne_eq, not_true_eq_false, decide_false, if_true, Bool.false_eq_true, if_false] at this
        simp only [ne_eq]
        omega
      · simp only
        rw [upd_off _ _ (by omega)]
        exact b4 k hk
      · simp only [fMaker_writeNumbers_L32, fM_makes_L266, t1, t2, if_false, t3, t4, Option.bind_some, t5, t6, t6', t7, t8, m4, ea, a3, nI_1, u1, u2, u3, u5, u6, u7, u4, o_wrI_s (show cin (A i) (B i) p < 84 by omega) (show 84 < 2 ^ 31 by decide)])
    (fun N y hy => by simp only [fMaker_writeNumbers_L32, fM_makes_L266, Int32.le_refl, if_true, Option.bind_some])
  obtain ⟨b1, b2, b3, b4⟩ := hNB
  obtain ⟨u, eu, ev⟩ := hf_bind eY
  obtain ⟨v, ev, euv⟩ := hf_bind ev
  have euv := Option.some.inj euv
  have hu : u = (nI n, y.1) := congrArg Prod.fst euv
  have hv : v = (nI n, y.1.1, y.2) := congrArg Prod.snd euv
  subst hu
  subst hv
  try rw [nI_0] at e2
  try rw [nI_0] at e3
  try rw [nI_0] at eu
  try rw [nI_0] at ev
  try rw [nI_0] at eM
  refine ⟨iF', y.1.2, y.1.1, nI n, l, f, n, y.1.1, c, y.2, ?_, ?_, b3, fun fi la k hk => ?_⟩
  · unfold fMaker_writeNumbers fBoard_removeNumbers fMaker_cutAll
    rw [e1, Option.bind_some, e2]
    simp only [Option.bind_some]
    rw [eP]
    simp only [Option.bind_some]
    rw [nI_l hsd]
    rw [show (fMaker_cutAll_L2 F F (0 : Int32) (nI 1) (upd f0 0 0) (upd l0 0 41) (lN sd)) = some (lN s', l, f, nI n) from eX]
    simp only [Option.bind_some]
    rw [show (fMaker_writeNumbers_L32 F (nI n) f l F 0 (lN s') nu1) = some (nI n, y.1) from eu]
    rfl
  · unfold fM_makes
    rw [show o_wrI 168 cu0 (0 : Int32) (0 : Int32) = some (upd cu0 0 0) from wr168 (i := 0) (by decide), Option.bind_some, show o_wrI 168 (upd cu0 0 0) (1 : Int32) (0 : Int32) = some (upd (upd cu0 0 0) 1 0) from wr168 (i := 1) (by decide), Option.bind_some, show o_wrI 168 (upd (upd cu0 0 0) 1 0) (2 : Int32) (5 : Int32) = some (upd (upd (upd cu0 0 0) 1 0) 2 5) from wr168 (i := 2) (by decide), Option.bind_some, show o_wrI 168 (upd (upd (upd cu0 0 0) 1 0) 2 5) (3 : Int32) (6 : Int32) = some (upd (upd (upd (upd cu0 0 0) 1 0) 2 5) 3 6) from wr168 (i := 3) (by decide), Option.bind_some, nI_l hsd]
    rw [show (fM_makes_L39 F F (1 : Int32) (0 : Int32) (upd (upd (upd (upd cu0 0 0) 1 0) 2 5) 3 6) (lN sd)) = some (nI n, nI n, c, lN s') from eM]
    simp only [Option.bind_some]
    rw [e3]
    simp only [Option.bind_some]
    rw [show (fM_makes_L266 F (nI n) c F 0 (lN s') s1) = some (nI n, y.1.1, y.2) from ev]
    rfl
  · refine ⟨(b1 k hk).1, by rw [Nat.zero_add]; exact (b1 k hk).2, Or.inl ⟨h1 k hk, ?_⟩⟩
    rw [Nat.zero_add]
    exact b4 k hk
