/-! THE MATHEMATICS: numbers by a seed. Own text. -/
def ns (s : Nat) : Nat := (s * 1103515245 + 12345) % 2147483648
def dr (n s : Nat) : Nat := ns s / 65536 % n
theorem ns_lt (s : Nat) : ns s < 2147483648 := Nat.mod_lt _ (by decide)
theorem dr_lt {n s : Nat} (h : 0 < n) : dr n s < n := Nat.mod_lt _ h
theorem ns_e {s : Nat} (hs : s < 2147483648) : ((lN s * (1103515245 : Int64)) + (12345 : Int64)) - ((lN s * (1103515245 : Int64)) + (12345 : Int64)) / (2147483648 : Int64) * (2147483648 : Int64) = lN (ns s) := by
  rw [show (1103515245 : Int64) = lN 1103515245 from rfl, show (12345 : Int64) = lN 12345 from rfl, show (2147483648 : Int64) = lN 2147483648 from rfl, lN_mul, lN_add]
  exact pk_lRem (by omega) (by decide) (by decide)
theorem rem_e {n s : Nat} (h : 0 < n) (hn : n < 2 ^ 31) : o_remJ (lN (ns s) / (65536 : Int64)) (nI n).toInt64 = some (lN (dr n s)) := by
  have h1 := ns_lt s
  rw [nI_l hn, show (65536 : Int64) = lN 65536 from rfl, pk_lDiv (by omega) (by decide) (by decide)]
  unfold o_remJ
  have h2 : ¬ lN n = 0 := fun e => by
    have := (pk_lEQ (a := n) (b := 0) (by omega) (by decide)).mp e
    omega
  rw [if_neg h2, pk_lRem (by omega) h (by omega)]
  rfl
theorem drawX {n s : Nat} (h : 0 < n) (hn : n < 2 ^ 31) (hs : s < 2147483648) : fMaker_drawBelow (nI n) (lN s) = some (nI (dr n s), lN (ns s)) := by
  unfold fMaker_drawBelow
  rw [ns_e hs, if_neg (nI_nle h hn), rem_e h hn, Option.bind_some, lN_i]
theorem drawM {n s : Nat} (h : 0 < n) (hn : n < 2 ^ 31) (hs : s < 2147483648) : fM_drawn (nI n) (lN s) = some (nI (dr n s), lN (ns s)) := by
  unfold fM_drawn
  rw [ns_e hs, rem_e h hn, Option.bind_some, lN_i]
/-- a board that is cut: n rectangles, by their corners -/
def QC (n : Nat) (A B : Nat → Nat) : Prop := 0 < n ∧ (∀ i, i < n → RC (A i) (B i)) ∧ (∀ i j, i < n → j < n → i ≠ j → DJ (A i, B i) (A j, B j)) ∧ fb_sm (fun i => sz (A i, B i)) n = 42
theorem QC.le {n : Nat} {A B : Nat → Nat} (h : QC n A B) : n ≤ 42 := by
  obtain ⟨-, h1, -, h2⟩ := h
  have h3 : fb_sm (fun _ => 1) n ≤ fb_sm (fun i => sz (A i, B i)) n := fb_sm_le (fun i hi => sz_pos (h1 i hi))
  rw [fb_sm_const, h2] at h3
  omega
theorem sz_e {a b : Nat} (h : RC a b) : sz (a, b) = (b / 7 - a / 7 + 1) * (b % 7 - a % 7 + 1) := rect_ct h
theorem QC.room {n : Nat} {A B : Nat → Nat} (h : QC n A B) {k : Nat} (hk : k < n) (h6 : 6 < sz (A k, B k)) : n < 42 := by
  obtain ⟨-, h1, -, h2⟩ := h
  have h3 := fb_sm_upd (fun i => sz (A i, B i)) 1 hk
  have h4 : fb_sm (fun _ => 1) n ≤ fb_sm (fun i => if i = k then 1 else sz (A i, B i)) n := fb_sm_le (fun i hi => by
    by_cases q : i = k
    · rw [if_pos q]; exact Nat.le_refl _
    · rw [if_neg q]; exact sz_pos (h1 i hi))
  rw [fb_sm_const] at h4
  omega
/-- how a rectangle is cut -/
def cutB (a b s : Nat) : Nat := if b / 7 - a / 7 + 1 ≤ b % 7 - a % 7 + 1 then 7 * (b / 7) + (a % 7 + dr (b % 7 - a % 7) s) else 7 * (a / 7 + dr (b / 7 - a / 7) s) + b % 7
def cutA (a b s : Nat) : Nat := if b / 7 - a / 7 + 1 ≤ b % 7 - a % 7 + 1 then a + (dr (b % 7 - a % 7) s + 1) else a + 7 * (dr (b / 7 - a / 7) s + 1)
theorem cut_ok {a b s : Nat} (h : RC a b) (h6 : 6 < sz (a, b)) : RC a (cutB a b s) ∧ RC (cutA a b s) b ∧ sz (a, cutB a b s) + sz (cutA a b s, b) = sz (a, b) ∧ (∀ k, inb a (cutB a b s) k = true → inb a b k = true) ∧ (∀ k, inb (cutA a b s) b k = true → inb a b k = true) ∧ DJ (a, cutB a b s) (cutA a b s, b) := by
  have h' := h
  unfold RC at h'
  obtain ⟨h1, h2, h3, h4⟩ := h'
  rw [sz_e h] at h6
  by_cases q : b / 7 - a / 7 + 1 ≤ b % 7 - a % 7 + 1
  · have hc : 0 < b % 7 - a % 7 := by
      apply Nat.pos_of_ne_zero
      intro z
      rw [z] at h6 q
      have : b / 7 - a / 7 = 0 := by omega
      rw [this] at h6
      omega
    have hd := dr_lt (s := s) hc
    have eB : cutB a b s = 7 * (b / 7) + (a % 7 + dr (b % 7 - a % 7) s) := if_pos q
    have eA : cutA a b s = a + (dr (b % 7 - a % 7) s + 1) := if_pos q
    rw [eA, eB]
    generalize dr (b % 7 - a % 7) s = d at hd
    have r1 : RC a (7 * (b / 7) + (a % 7 + d)) := by unfold RC; omega
    have r2 : RC (a + (d + 1)) b := by unfold RC; omega
    refine ⟨r1, r2, ?_, fun k hk => ?_, fun k hk => ?_, ?_⟩
    · rw [sz_e r1, sz_e r2, sz_e h]
      have x1 : (7 * (b / 7) + (a % 7 + d)) / 7 = b / 7 := by omega
      have x2 : (7 * (b / 7) + (a % 7 + d)) % 7 = a % 7 + d := by omega
      have x3 : (a + (d + 1)) / 7 = a / 7 := by omega
      have x4 : (a + (d + 1)) % 7 = a % 7 + (d + 1) := by omega
      rw [x1, x2, x3, x4, ← Nat.mul_add]
      congr 1
      omega
    · rw [inb_iff] at hk ⊢; unfold IN at hk ⊢; omega
    · rw [inb_iff] at hk ⊢; unfold IN at hk ⊢; omega
    · rintro k hk ⟨e1, e2⟩
      have e1 := inb_iff.mp e1
      have e2 := inb_iff.mp e2
      unfold IN at e1 e2
      simp only at e1 e2
      omega
  · have hc : 0 < b / 7 - a / 7 := by omega
    have hd := dr_lt (s := s) hc
    have eB : cutB a b s = 7 * (a / 7 + dr (b / 7 - a / 7) s) + b % 7 := if_neg q
    have eA : cutA a b s = a + 7 * (dr (b / 7 - a / 7) s + 1) := if_neg q
    rw [eA, eB]
    generalize dr (b / 7 - a / 7) s = d at hd
    have r1 : RC a (7 * (a / 7 + d) + b % 7) := by unfold RC; omega
    have r2 : RC (a + 7 * (d + 1)) b := by unfold RC; omega
    refine ⟨r1, r2, ?_, fun k hk => ?_, fun k hk => ?_, ?_⟩
    · rw [sz_e r1, sz_e r2, sz_e h]
      have x1 : (7 * (a / 7 + d) + b % 7) / 7 = a / 7 + d := by omega
      have x2 : (7 * (a / 7 + d) + b % 7) % 7 = b % 7 := by omega
      have x3 : (a + 7 * (d + 1)) / 7 = a / 7 + (d + 1) := by omega
      have x4 : (a + 7 * (d + 1)) % 7 = a % 7 := by omega
      rw [x1, x2, x3, x4, ← Nat.add_mul]
      congr 1
      omega
    · rw [inb_iff] at hk ⊢; unfold IN at hk ⊢; omega
    · rw [inb_iff] at hk ⊢; unfold IN at hk ⊢; omega
    · rintro k hk ⟨e1, e2⟩
      have e1 := inb_iff.mp e1
      have e2 := inb_iff.mp e2
      unfold IN at e1 e2
      simp only at e1 e2
      omega
def nA (n k : Nat) (A B : Nat → Nat) (s : Nat) : Nat → Nat := fun i => if i = n then cutA (A k) (B k) s else A i
def nB (n k : Nat) (A B : Nat → Nat) (s : Nat) : Nat → Nat := fun i => if i = n then B k else if i = k then cutB (A k) (B k) s else B i
theorem QC.cut {n : Nat} {A B : Nat → Nat} (h : QC n A B) {k : Nat} (hk : k < n) (h6 : 6 < sz (A k, B k)) (s : Nat) : QC (n + 1) (nA n k A B s) (nB n k A B s) := by
  obtain ⟨h0, h1, h2, h3⟩ := h
  obtain ⟨c1, c2, c3, c4, c5, c6⟩ := cut_ok (s := s) (h1 k hk) h6
  have eAn : nA n k A B s n = cutA (A k) (B k) s := if_pos rfl
  have eBn : nB n k A B s n = B k := if_pos rfl
  have eAk : nA n k A B s k = A k := if_neg (by omega)
  have eBk : nB n k A B s k = cutB (A k) (B k) s := by unfold nB; rw [if_neg (by omega), if_pos rfl]
  have eAo : ∀ i, i < n → nA n k A B s i = A i := fun i hi => if_neg (by omega)
  have eBo : ∀ i, i < n → i ≠ k → nB n k A B s i = B i := fun i hi q => by unfold nB; rw [if_neg (by omega), if_neg q]
  have sub : ∀ i, i < n → ∀ x, inb (nA n k A B s i) (nB n k A B s i) x = true → inb (A i) (B i) x = true := fun i hi x hx => by
    rw [eAo i hi] at hx
    by_cases q : i = k
    · subst q
      rw [eBk] at hx
      exact c4 x hx
    · rw [eBo i hi q] at hx
      exact hx
  have sym : ∀ {r r' : Nat × Nat}, DJ r r' → DJ r' r := fun h x hx ⟨e1, e2⟩ => h x hx ⟨e2, e1⟩
  have dn : ∀ i, i < n → DJ (nA n k A B s i, nB n k A B s i) (nA n k A B s n, nB n k A B s n) := fun i hi => by
    by_cases q : i = k
    · subst q
      rw [eAk, eBk, eAn, eBn]
      exact c6
    · rintro x hx ⟨e1, e2⟩
      rw [eAn, eBn] at e2
      exact h2 i k hi hk q x hx ⟨sub i hi x e1, c5 x e2⟩
  refine ⟨by omega, fun i hi => ?_, fun i j hi hj hne => ?_, ?_⟩
  · by_cases q : i = n
    · subst q
      rw [eAn, eBn]
      exact c2
    · by_cases q2 : i = k
      · subst q2
        rw [eAk, eBk]
        exact c1
      · rw [eAo i (by omega), eBo i (by omega) q2]
        exact h1 i (by omega)
  · by_cases q : i = n
    · subst q
      exact sym (dn j (by omega))
    · by_cases q2 : j = n
      · subst q2
        exact dn i (by omega)
      · rintro x hx ⟨e1, e2⟩
        exact h2 i j (by omega) (by omega) hne x hx ⟨sub i (by omega) x e1, sub j (by omega) x e2⟩
  · rw [fb_sm_succ, eAn, eBn]
    have e1 : fb_sm (fun i => sz (nA n k A B s i, nB n k A B s i)) n = fb_sm (fun i => if i = k then sz (A k, cutB (A k) (B k) s) else sz (A i, B i)) n := fb_sm_cong (fun i hi => by
      by_cases q : i = k
      · subst q
        rw [if_pos rfl, eAk, eBk]
      · rw [if_neg q, eAo i hi, eBo i hi q])
    have e2 := fb_sm_upd (fun i => sz (A i, B i)) (sz (A k, cutB (A k) (B k) s)) hk
    omega
/-- the two hold the same rectangles -/
def HX (n : Nat) (A B : Nat → Nat) (f l : Nat → Int32) : Prop := ∀ i, i < n → f i = nI (A i) ∧ l i = nI (B i)
def HM (n : Nat) (A B : Nat → Nat) (c : Nat → Int32) : Prop := ∀ i, i < n → c (4 * i) = nI (A i / 7) ∧ c (4 * i + 1) = nI (A i % 7) ∧ c (4 * i + 2) = nI (B i / 7) ∧ c (4 * i + 3) = nI (B i % 7)
theorem m4 (k : Nat) : (4 : Int32) * nI k = nI (4 * k) := by rw [show (4 : Int32) = nI 4 from rfl, pk_mul]
theorem rd168 {c : Nat → Int32} {i : Nat} (h : i < 168) : o_rd 168 c (nI i) = some (c i) := o_rd_s h (by decide)
theorem wr168 {c : Nat → Int32} {i : Nat} {v : Int32} (h : i < 168) : o_wrI 168 c (nI i) v = some (upd c i v) := o_wrI_s h (by decide)
theorem area_s {n : Nat} {A B : Nat → Nat} {c : Nat → Int32} (hc : HM n A B c) {k : Nat} (hk : k < n) (hn : n ≤ 42) (hr : RC (A k) (B k)) : fM_area (nI (4 * k)) c = some (nI (sz (A k, B k))) := by
  obtain ⟨c0, c1, c2, c3⟩ := hc k hk
  have hr' := hr
  unfold RC at hr'
  unfold fM_area
  rw [show (1 : Int32) = nI 1 from rfl, show (2 : Int32) = nI 2 from rfl, show (3 : Int32) = nI 3 from rfl, nI_add, nI_add, nI_add, rd168 (by omega), rd168 (by omega), rd168 (by omega), rd168 (by omega)]
  simp only [Option.bind_some]
  rw [c0, c1, c2, c3, pk_sub hr'.2.2.1, pk_sub hr'.2.2.2, nI_add, nI_add, pk_mul, sz_e hr]
theorem putX {n : Nat} (hn : n < 42) (x y : Int32) (f l : Nat → Int32) : fMaker_put x y (nI n) f l = some (upd f n x, upd l n y, nI (n + 1)) := by
  unfold fMaker_put
  rw [if_neg (nI_pos (by omega)), if_neg (ge42 hn), o_wrI_s hn (by decide), o_wrI_s hn (by decide), Option.bind_some, Option.bind_some, nI_1]
theorem rowsX {a b : Nat} (hr : RC a b) : fX_rowsOf (nI a) (nI b) = some (nI (b / 7 - a / 7 + 1)) := by
  unfold RC at hr
  unfold fX_rowsOf
  rw [nI_d7 (by omega), nI_d7 (by omega), pk_sub hr.2.2.1, nI_1]
theorem colsX {a b : Nat} (hr : RC a b) : fX_columnsOf (nI a) (nI b) = some (nI (b % 7 - a % 7 + 1)) := by
  unfold RC at hr
  unfold fX_columnsOf
  rw [nI_r7 (by omega), nI_r7 (by omega), pk_sub hr.2.2.2, nI_1]
theorem cellX1 {a b d : Nat} (hr : RC a b) : fX_cellAt (nI b / 7) (((nI a - nI a / 7 * 7) + nI (d + 1)) - 1) = some (nI (7 * (b / 7) + (a % 7 + d))) := by
  unfold RC at hr
  unfold fX_cellAt
  rw [nI_r7 (by omega), nI_d7 (by omega), nI_add, ← Nat.add_assoc, nI_pred, show (7 : Int32) = nI 7 from rfl, pk_mul, nI_add]
  exact congrArg (fun z => some (nI z)) (by omega)
theorem cellX2 {a b d : Nat} (hr : RC a b) : fX_cellAt ((nI a / 7 + nI (d + 1)) - 1) (nI b - nI b / 7 * 7) = some (nI (7 * (a / 7 + d) + b % 7)) := by
  unfold RC at hr
  unfold fX_cellAt
  rw [nI_r7 (by omega), nI_d7 (by omega), nI_add, ← Nat.add_assoc, nI_pred, show (7 : Int32) = nI 7 from rfl, pk_mul, nI_add]
  exact congrArg (fun z => some (nI z)) (by omega)
theorem HX.cut {n : Nat} {A B : Nat → Nat} {k s : Nat} {f l : Nat → Int32} (hX : HX n A B f l) : HX (n + 1) (nA n k A B s) (nB n k A B s) (upd f n (nI (cutA (A k) (B k) s))) (upd (upd l k (nI (cutB (A k) (B k) s))) n (nI (B k))) := by
  intro i hi
  unfold nA nB
  by_cases q : i = n
  · rw [if_pos q, if_pos q, q, upd_at, upd_at]
    exact ⟨rfl, rfl⟩
  · have hi2 : i < n := by omega
    rw [if_neg q, if_neg q, upd_off _ _ q, upd_off _ _ q]
    refine ⟨(hX i hi2).1, ?_⟩
    by_cases q2 : i = k
    · rw [if_pos q2, q2, upd_at]
    · rw [if_neg q2, upd_off _ _ q2]
      exact (hX i hi2).2
theorem cutX1 {a b k n s : Nat} (hr : RC a b) (hk : k < n) (hn : n < 42) (q : b / 7 - a / 7 + 1 ≤ b % 7 - a % 7 + 1) (hc : 0 < b % 7 - a % 7) (hs : s < 2147483648) {f l : Nat → Int32} (x1 : f k = nI a) (x2 : l k = nI b) : fMaker_cut (nI k) f l (lN s) (nI n) = some (lN (ns s), upd (upd l k (nI (7 * (b / 7) + (a % 7 + dr (b % 7 - a % 7) s)))) n (nI b), upd f n (nI (a + (dr (b % 7 - a % 7) s + 1))), nI (n + 1)) := by
  have hr' := hr
  unfold RC at hr'
  have e1 : o_rd 42 f (nI k) = some (nI a) := by rw [o_rd_s (by omega) (by decide), x1]
  have e2 : o_rd 42 l (nI k) = some (nI b) := by rw [o_rd_s (by omega) (by decide), x2]
  have p1 : ¬ nI k < 0 := nI_pos (by omega)
  have p2 : nI k < (42 : Int32) := nI_lt (b := 42) (by omega) (by decide)
  have e5 : nI (b / 7 - a / 7 + 1) ≤ nI (b % 7 - a % 7 + 1) := nI_le q (by omega)
  have e6 := drawX (n := b % 7 - a % 7) hc (by omega) hs
  generalize dr (b % 7 - a % 7) s = d at e6
  have e7 := cellX1 (d := d) hr
  have e8 : nI a + nI (d + 1) = nI (a + (d + 1)) := nI_add _ _
  unfold fMaker_cut
  rw [if_neg p1, if_pos p2, e1, Option.bind_some, e2, Option.bind_some, rowsX hr, Option.bind_some, colsX hr, Option.bind_some, if_pos e5, nI_pred, e6, Option.bind_some]
  simp only [nI_1, e7, Option.bind_some]
  rw [o_wrI_s (show k < 42 by omega) (show 42 < 2 ^ 31 by decide), Option.bind_some, e8, putX hn, Option.bind_some]
theorem cutX2 {a b k n s : Nat} (hr : RC a b) (hk : k < n) (hn : n < 42) (q : ¬ b / 7 - a / 7 + 1 ≤ b % 7 - a % 7 + 1) (hc : 0 < b / 7 - a / 7) (hs : s < 2147483648) {f l : Nat → Int32} (x1 : f k = nI a) (x2 : l k = nI b) : fMaker_cut (nI k) f l (lN s) (nI n) = some (lN (ns s), upd (upd l k (nI (7 * (a / 7 + dr (b / 7 - a / 7) s) + b % 7))) n (nI b), upd f n (nI (a + 7 * (dr (b / 7 - a / 7) s + 1))), nI (n + 1)) := by
  have hr' := hr
  unfold RC at hr'
  have e1 : o_rd 42 f (nI k) = some (nI a) := by rw [o_rd_s (by omega) (by decide), x1]
  have e2 : o_rd 42 l (nI k) = some (nI b) := by rw [o_rd_s (by omega) (by decide), x2]
  have p1 : ¬ nI k < 0 := nI_pos (by omega)
  have p2 : nI k < (42 : Int32) := nI_lt (b := 42) (by omega) (by decide)
  have e5 : ¬ nI (b / 7 - a / 7 + 1) ≤ nI (b % 7 - a % 7 + 1) := nI_ge (by omega) (by omega)
  have e6 := drawX (n := b / 7 - a / 7) hc (by omega) hs
  generalize dr (b / 7 - a / 7) s = d at e6
  have e7 := cellX2 (d := d) hr
  have e8 : nI a + nI (d + 1) * 7 = nI (a + 7 * (d + 1)) := by
    rw [show (7 : Int32) = nI 7 from rfl, pk_mul, nI_add, Nat.mul_comm]
  unfold fMaker_cut
  rw [if_neg p1, if_pos p2, e1, Option.bind_some, e2, Option.bind_some, rowsX hr, Option.bind_some, colsX hr, Option.bind_some, if_neg e5, nI_pred, e6, Option.bind_some]
  simp only [nI_1, e7, Option.bind_some]
  rw [o_wrI_s (show k < 42 by omega) (show 42 < 2 ^ 31 by decide), Option.bind_some, e8, putX hn, Option.bind_some]
theorem cutX {n : Nat} {A B : Nat → Nat} (h : QC n A B) {k : Nat} (hk : k < n) (h6 : 6 < sz (A k, B k)) {s : Nat} (hs : s < 2147483648) {f l : Nat → Int32} (hX : HX n A B f l) : ∃ f' l', fMaker_cut (nI k) f l (lN s) (nI n) = some (lN (ns s), l', f', nI (n + 1)) ∧ HX (n + 1) (nA n k A B s) (nB n k A B s) f' l' := by
  have hn := h.room hk h6
  have hr := h.2.1 k hk
  rw [sz_e hr] at h6
  obtain ⟨x1, x2⟩ := hX k hk
  refine ⟨_, _, ?_, hX.cut⟩
  by_cases q : B k / 7 - A k / 7 + 1 ≤ B k % 7 - A k % 7 + 1
  · have hc : 0 < B k % 7 - A k % 7 := by
      apply Nat.pos_of_ne_zero
      intro z
      rw [z] at h6 q
      have : B k / 7 - A k / 7 = 0 := by omega
      rw [this] at h6
      omega
    rw [cutX1 hr hk hn q hc hs x1 x2]
    unfold cutA cutB
    rw [if_pos q, if_pos q]
  · have hc : 0 < B k / 7 - A k / 7 := by omega
    rw [cutX2 hr hk hn q hc hs x1 x2]
    unfold cutA cutB
    rw [if_neg q, if_neg q]
theorem copy4 {F : Nat} (hF : 42 < F) {n k : Nat} (hk : k < n) (hn : n < 42) (c : Nat → Int32) : ∃ c', fM_makes_L143 F (nI n) (nI (4 * k)) F 0 c = some (nI 4, c') ∧ (∀ j, j < 4 → c' (4 * n + j) = c (4 * k + j)) ∧ ∀ i, (i < 4 * n ∨ 4 * n + 4 ≤ i) → c' i = c i := by
  obtain ⟨x, hx, e⟩ := lp0 (F := F) 4 (by omega) (fun N i (x : Nat → Int32) => fM_makes_L143 F (nI n) (nI (4 * k)) N (nI i) x) (fun x => (nI 4, x)) (fun i x => (∀ j, j < i → x (4 * n + j) = c (4 * k + j)) ∧ ∀ j, (j < 4 * n ∨ 4 * n + 4 ≤ j) → x j = c j) (a := c) ⟨fun j hj => by omega, fun j _ => rfl⟩
    (fun i x hi hx => by
      have e1 : ¬ (4 : Int32) ≤ nI i := nI_ge (b := 4) hi (by decide)
      refine ⟨upd x (4 * n + i) (c (4 * k + i)), ⟨fun j hj => ?_, fun j hj => ?_⟩, fun N => ?_⟩
      · by_cases q : j = i
        · subst q; exact upd_at _ _ _
        · rw [upd_off _ _ (by omega)]; exact hx.1 j (by omega)
      · rw [upd_off _ _ (by omega)]; exact hx.2 j hj
      · have hxk : x (4 * k + i) = c (4 * k + i) := hx.2 _ (by omega)
        simp only [fM_makes_L143, e1, if_false, nI_add, m4, rd168 (show 4 * k + i < 168 by omega), wr168 (show 4 * n + i < 168 by omega), hxk, Option.bind_some, nI_1])
    (fun N x hx => by simp only [fM_makes_L143, show (4 : Int32) ≤ nI 4 from Int32.le_refl _, if_true])
  try rw [nI_0] at e
  exact ⟨x, e, hx⟩
theorem cutM {F : Nat} (hF : 42 < F) {n : Nat} {A B : Nat → Nat} (h : QC n A B) {k : Nat} (hk : k < n) (h6 : 6 < sz (A k, B k)) {s : Nat} (hs : s < 2147483648) {c : Nat → Int32} (hM : HM n A B c) : ∃ c', (∀ N, fM_makes_L39 F (N + 1) (nI n) (nI k) c (lN s) = fM_makes_L39 F N (nI (n + 1)) (nI k) c' (lN (ns s))) ∧ HM (n + 1) (nA n k A B s) (nB n k A B s) c' := by
  have hn := h.room hk h6
  have hr := h.2.1 k hk
  have hr' := hr
  unfold RC at hr'
  have ea := area_s hM hk (by omega) hr
  have e0 : ¬ nI (sz (A k, B k)) ≤ (6 : Int32) := nI_ge (a := 6) h6 (by have := sz_le (A k, B k); omega)
  have en : ¬ nI n ≤ nI k := nI_ge hk (by omega)
  obtain ⟨c0, c1, c2, c3⟩ := hM k hk
  have e1 : o_rd 168 c (nI (4 * k + 2)) = some (nI (B k / 7)) := by rw [rd168 (by omega), c2]
  have e2 : o_rd 168 c (nI (4 * k)) = some (nI (A k / 7)) := by rw [rd168 (by omega), c0]
  have e3 : o_rd 168 c (nI (4 * k + 3)) = some (nI (B k % 7)) := by rw [rd168 (by omega), c3]
  have e4 : o_rd 168 c (nI (4 * k + 1)) = some (nI (A k % 7)) := by rw [rd168 (by omega), c1]
  have a2 : nI (4 * k) + (2 : Int32) = nI (4 * k + 2) := nI_add _ 2
  have a3 : nI (4 * k) + (3 : Int32) = nI (4 * k + 3) := nI_add _ 3
  have a1 : nI (4 * k) + (1 : Int32) = nI (4 * k + 1) := nI_1 _
  have d1 : nI (B k / 7) - nI (A k / 7) = nI (B k / 7 - A k / 7) := pk_sub hr'.2.2.1
  have d2 : nI (B k % 7) - nI (A k % 7) = nI (B k % 7 - A k % 7) := pk_sub hr'.2.2.2
  obtain ⟨x, ex, hx1, hx2⟩ := copy4 hF hk hn c
  have y0 := hx1 0 (by decide)
  have y1 := hx1 1 (by decide)
  have y2 := hx1 2 (by decide)
  have y3 := hx1 3 (by decide)
  rw [Nat.add_zero, Nat.add_zero, c0] at y0
  rw [c1] at y1
  rw [c2] at y2
  rw [c3] at y3
  have xk : ∀ j, j < 4 → x (4 * k + j) = c (4 * k + j) := fun j hj => hx2 _ (by omega)
  have h6' := h6
  rw [sz_e hr] at h6'
  have fin : ∀ (c' : Nat → Int32), (∀ i, i < n → i ≠ k → c' (4 * i) = c (4 * i) ∧ c' (4 * i + 1) = c (4 * i + 1) ∧ c' (4 * i + 2) = c (4 * i + 2) ∧ c' (4 * i + 3) = c (4 * i + 3)) → (c' (4 * k) = nI (A k / 7) ∧ c' (4 * k + 1) = nI (A k % 7) ∧ c' (4 * k + 2) = nI (cutB (A k) (B k) s / 7) ∧ c' (4 * k + 3) = nI (cutB (A k) (B k) s % 7)) → (c' (4 * n) = nI (cutA (A k) (B k) s / 7) ∧ c' (4 * n + 1) = nI (cutA (A k) (B k) s % 7) ∧ c' (4 * n + 2) = nI (B k / 7) ∧ c' (4 * n + 3) = nI (B k % 7)) → HM (n + 1) (nA n k A B s) (nB n k A B s) c' := fun c' w1 w2 w3 i hi => by
    unfold nA nB
    by_cases q : i = n
    · subst q
      rw [if_pos rfl, if_pos rfl]
      exact w3
    · rw [if_neg q, if_neg q]
      by_cases q2 : i = k
      · subst q2
        rw [if_pos rfl]
        exact w2
      · rw [if_neg q2]
        obtain ⟨v0, v1, v2, v3⟩ := w1 i (by omega) q2
        rw [v0, v1, v2, v3]
        exact hM i (by omega)
  by_cases q : B k / 7 - A k / 7 + 1 ≤ B k % 7 - A k % 7 + 1
  · have hc : 0 < B k % 7 - A k % 7 := by
      apply Nat.pos_of_ne_zero
      intro z
      rw [z] at h6' q
      have : B k / 7 - A k / 7 = 0 := by omega
      rw [this] at h6'
      omega
    have hd := dr_lt (s := s) hc
    have e5 : nI (B k / 7 - A k / 7 + 1) ≤ nI (B k % 7 - A k % 7 + 1) := nI_le q (by omega)
    have e6 : fM_drawn (nI (B k % 7 - A k % 7)) (lN s) = some (nI (dr (B k % 7 - A k % 7) s), lN (ns s)) := drawM hc (by omega) hs
    have eB : cutB (A k) (B k) s = 7 * (B k / 7) + (A k % 7 + dr (B k % 7 - A k % 7) s) := if_pos q
    have eA : cutA (A k) (B k) s = A k + (dr (B k % 7 - A k % 7) s + 1) := if_pos q
    generalize dr (B k % 7 - A k % 7) s = d at hd e6 eB eA
    have r1 : o_rd 168 x (nI (4 * k + 1)) = some (nI (A k % 7)) := by rw [rd168 (by omega), xk 1 (by decide), c1]
    have b1 : (1 : Int32) + nI d = nI (1 + d) := nI_add 1 d
    have b2 : nI (A k % 7 + (1 + d)) - 1 = nI (A k % 7 + d) := by
      rw [show A k % 7 + (1 + d) = (A k % 7 + d) + 1 by omega, nI_pred]
    have b3 : nI (4 * k + 2) + 1 = nI (4 * k + 3) := nI_1 _
    have b4 : o_rd 168 (upd x (4 * k + 3) (nI (A k % 7 + d))) (nI (4 * k + 1)) = some (nI (A k % 7)) := by rw [rd168 (by omega), upd_off _ _ (by omega), xk 1 (by decide), c1]
    have b5 : nI (A k % 7) + nI (1 + d) = nI (A k % 7 + (1 + d)) := nI_add _ _
    have b6 : nI (4 * n) + 1 = nI (4 * n + 1) := nI_1 _
    refine ⟨upd (upd x (4 * k + 3) (nI (A k % 7 + d))) (4 * n + 1) (nI (A k % 7 + (1 + d))), fun N => ?_, fin _ (fun i hi q2 => ?_) ⟨?_, ?_, ?_, ?_⟩ ⟨?_, ?_, ?_, ?_⟩⟩
    · simp only [fM_makes_L39, en, if_false, m4, ea, Option.bind_some, e0, a1, a2, a3, e1, e2, e3, e4, d1, d2, nI_1, e5, if_true, show ¬ (1 : Int32) = 0 by decide, not_false_eq_true, nI_pred, e6, ex, r1, b1, b2, b3, wr168 (show 4 * k + 3 < 168 by omega), b4, b5, b6, wr168 (show 4 * n + 1 < 168 by omega)]
    · rw [upd_off _ _ (by omega), upd_off _ _ (by omega), upd_off _ _ (by omega), upd_off _ _ (by omega), upd_off _ _ (by omega), upd_off _ _ (by omega), upd_off _ _ (by omega), upd_off _ _ (by omega)]
      exact ⟨hx2 _ (by omega), hx2 _ (by omega), hx2 _ (by omega), hx2 _ (by omega)⟩
    · rw [upd_off _ _ (by omega), upd_off _ _ (by omega), hx2 _ (by omega), c0]
    · rw [upd_off _ _ (by omega), upd_off _ _ (by omega), xk 1 (by decide), c1]
    · rw [upd_off _ _ (by omega), upd_off _ _ (by omega), xk 2 (by decide), c2, eB]
      exact congrArg nI (by omega)
    · rw [upd_off _ _ (by omega), upd_at, eB]
      exact congrArg nI (by omega)
    · rw [upd_off _ _ (by omega), upd_off _ _ (by omega), y0, eA]
      exact congrArg nI (by omega)
    · rw [upd_at, eA]
      exact congrArg nI (by omega)
    · rw [upd_off _ _ (by omega), upd_off _ _ (by omega), y2]
    · rw [upd_off _ _ (by omega), upd_off _ _ (by omega), y3]
  · have hc : 0 < B k / 7 - A k / 7 := by omega
    have hd := dr_lt (s := s) hc
    have e5 : ¬ nI (B k / 7 - A k / 7 + 1) ≤ nI (B k % 7 - A k % 7 + 1) := nI_ge (by omega) (by omega)
    have e6 : fM_drawn (nI (B k / 7 - A k / 7)) (lN s) = some (nI (dr (B k / 7 - A k / 7) s), lN (ns s)) := drawM hc (by omega) hs
    have eB : cutB (A k) (B k) s = 7 * (A k / 7 + dr (B k / 7 - A k / 7) s) + B k % 7 := if_neg q
    have eA : cutA (A k) (B k) s = A k + 7 * (dr (B k / 7 - A k / 7) s + 1) := if_neg q
    generalize dr (B k / 7 - A k / 7) s = d at hd e6 eB eA
    have r1 : o_rd 168 x (nI (4 * k)) = some (nI (A k / 7)) := by rw [rd168 (by omega), hx2 _ (by omega), c0]
    have b1 : (1 : Int32) + nI d = nI (1 + d) := nI_add 1 d
    have b2 : nI (A k / 7 + (1 + d)) - 1 = nI (A k / 7 + d) := by
      rw [show A k / 7 + (1 + d) = (A k / 7 + d) + 1 by omega, nI_pred]
    have b4 : o_rd 168 (upd x (4 * k + 2) (nI (A k / 7 + d))) (nI (4 * k)) = some (nI (A k / 7)) := by rw [rd168 (by omega), upd_off _ _ (by omega), hx2 _ (by omega), c0]
    have b5 : nI (A k / 7) + nI (1 + d) = nI (A k / 7 + (1 + d)) := nI_add _ _
    refine ⟨upd (upd x (4 * k + 2) (nI (A k / 7 + d))) (4 * n) (nI (A k / 7 + (1 + d))), fun N => ?_, fin _ (fun i hi q2 => ?_) ⟨?_, ?_, ?_, ?_⟩ ⟨?_, ?_, ?_, ?_⟩⟩
    · simp only [fM_makes_L39, en, if_false, m4, ea, Option.bind_some, e0, a1, a2, a3, e1, e2, e3, e4, d1, d2, nI_1, e5, if_true, not_true_eq_false, nI_pred, e6, ex, Int32.add_zero, r1, b1, b2, wr168 (show 4 * k + 2 < 168 by omega), b4, b5, wr168 (show 4 * n < 168 by omega)]
    · rw [upd_off _ _ (by omega), upd_off _ _ (by omega), upd_off _ _ (by omega), upd_off _ _ (by omega), upd_off _ _ (by omega), upd_off _ _ (by omega), upd_off _ _ (by omega), upd_off _ _ (by omega)]
      exact ⟨hx2 _ (by omega), hx2 _ (by omega), hx2 _ (by omega), hx2 _ (by omega)⟩
    · rw [upd_off _ _ (by omega), upd_off _ _ (by omega), hx2 _ (by omega), c0]
    · rw [upd_off _ _ (by omega), upd_off _ _ (by omega), xk 1 (by decide), c1]
    · rw [upd_off _ _ (by omega), upd_at, eB]
      exact congrArg nI (by omega)
    · rw [upd_off _ _ (by omega), upd_off _ _ (by omega), xk 3 (by decide), c3, eB]
      exact congrArg nI (by omega)
    · rw [upd_at, eA]
      exact congrArg nI (by omega)
    · rw [upd_off _ _ (by omega), upd_off _ _ (by omega), y1, eA]
      exact congrArg nI (by omega)
    · rw [upd_off _ _ (by omega), upd_off _ _ (by omega), y2]
    · rw [upd_off _ _ (by omega), upd_off _ _ (by omega), y3]
