/-! THE MATHEMATICS: the law's loop: its invariant and small lemmas. Printed by wip/gen/loop2.py. Own text. -/
def six6 {α : Type} (x0 x1 x2 x3 x4 x5 : α) : Nat → α
  | 0 => x0
  | 1 => x1
  | 2 => x2
  | 3 => x3
  | 4 => x4
  | _ + 5 => x5
def two2 {α : Type} (x0 x1 : α) : Nat → α
  | 0 => x0
  | _ + 1 => x1
theorem six_at {α : Type} (n : Nat → α) : ∀ {j : Nat}, j < 6 → six6 (n 0) (n 1) (n 2) (n 3) (n 4) (n 5) j = n j
  | 0, _ => rfl
  | 1, _ => rfl
  | 2, _ => rfl
  | 3, _ => rfl
  | 4, _ => rfl
  | 5, _ => rfl
  | j + 6, h => absurd h (by omega)
theorem two_at {α : Type} (n : Nat → α) : ∀ {j : Nat}, j < 2 → two2 (n 0) (n 1) j = n j
  | 0, _ => rfl
  | 1, _ => rfl
  | j + 2, h => absurd h (by omega)
theorem HI_six {a : Nat → Nat} {c k : Int32} {sv : Nat → Option Nat} {n i f l : Nat → Nat → Int32} {bf : Nat → Int32} (h : HI a c sv n i f l k bf) : HI a c sv (six6 (n 0) (n 1) (n 2) (n 3) (n 4) (n 5)) (six6 (i 0) (i 1) (i 2) (i 3) (i 4) (i 5)) (six6 (f 0) (f 1) (f 2) (f 3) (f 4) (f 5)) (six6 (l 0) (l 1) (l 2) (l 3) (l 4) (l 5)) k bf := by
  obtain ⟨d, h1, h2, h3, p, h4, h5, h6⟩ := h
  refine ⟨d, h1, h2, h3, p, h4, h5, fun j hj => ?_⟩
  have hp := (h4 j (by omega)).1
  rw [six_at n hp, six_at i hp, six_at f hp, six_at l hp]
  exact h6 j hj
theorem SN_two {b : Nat → Nat} {snap : Nat → Option Nat} {vn vi vf vl : Nat → Nat → Int32} {filled slots kept : Nat → Int32} (h : SN b snap vn vi vf vl filled slots kept) : SN b snap (two2 (vn 0) (vn 1)) (two2 (vi 0) (vi 1)) (two2 (vf 0) (vf 1)) (two2 (vl 0) (vl 1)) filled slots kept := by
  obtain ⟨h1, h2, h3, h4⟩ := h
  refine ⟨h1, h2, h3, fun j hj => ?_⟩
  rw [two_at vn hj, two_at vi hj, two_at vf hj, two_at vl hj]
  exact h4 j hj
def INV (a b : Nat → Nat) (snap : Nat → Option Nat) (count : Int32) (saved : Nat → Option Nat) (nu : Nat → Int32) (n q f l : Nat → Nat → Int32) (s : Nat → Int32) (known : Int32) (before inF fi la : Nat → Int32) (len : Int32) (codes : Nat → Int32) (len2 : Int32) (buf : Nat → Int32) (vn vi vf vl : Nat → Nat → Int32) (filled slots kept : Nat → Int32) : Prop :=
  BR nu inF fi la s 0 ∧ HI a count saved n q f l known before ∧ (∃ m, m ≤ 60 ∧ len = nI m ∧ len2 = nI m ∧ ∀ k, k < m → codes k = buf k) ∧ SN b snap vn vi vf vl filled slots kept
theorem bo {α β : Type} {x : Option α} {P : α → Prop} {k : α → Option β} (h : ∃ t, x = some t ∧ P t) (hk : ∀ t, P t → ∃ r, k t = some r) : ∃ r, x.bind k = some r := by
  obtain ⟨t, e, ht⟩ := h
  obtain ⟨r, hr⟩ := hk t ht
  subst e
  exact ⟨r, hr⟩
theorem io {α : Type} {c : Prop} [Decidable c] {x y : Option α} {P : α → Prop} (h1 : c → ∃ t, x = some t ∧ P t) (h2 : ¬ c → ∃ t, y = some t ∧ P t) : ∃ t, (if c then x else y) = some t ∧ P t := by
  by_cases q : c
  · rw [if_pos q]; exact h1 q
  · rw [if_neg q]; exact h2 q
theorem co {α γ : Type} {x : Option γ} {g : γ → α} {P : α → Prop} (h : ∃ o, x = some o ∧ P (g o)) : ∃ t, (x.bind fun o => some (g o)) = some t ∧ P t := by
  obtain ⟨o, e, ho⟩ := h
  subst e
  exact ⟨g o, rfl, ho⟩
theorem oo_k {γ : Type} {x : Option γ} {Q : γ → Prop} (h : ∃ o, x = some o) (hq : ∀ o, Q o) : ∃ o, x = some o ∧ Q o := by
  obtain ⟨o, e⟩ := h
  exact ⟨o, e, hq o⟩
theorem ep_o {α : Type} {c : Prop} [Decidable c] {x y : Option α} (h : c) (e : ∃ r, x = some r) : ∃ r, (if c then x else y) = some r := by
  rw [if_pos h]; exact e
theorem en_o {α : Type} {c : Prop} [Decidable c] {x y : Option α} (h : ¬ c) (e : ∃ r, y = some r) : ∃ r, (if c then x else y) = some r := by
  rw [if_neg h]; exact e
theorem eb_o {α β : Type} {x : Option α} {v : α} {k : α → Option β} (h : x = some v) (e : ∃ r, k v = some r) : ∃ r, x.bind k = some r := by
  subst h
  exact e
theorem test_s {L i : Nat} (hL : L ≤ 2560) (hi : i ≤ 2565) : ((Int32.ofNat L) - (5 : Int32) < nI i) ↔ L < i + 5 := by
  have e1 : (Int32.ofNat L).toInt = (L : Int) := nI_toInt (n := L) (by omega)
  have e2 : (5 : Int32).toInt = 5 := by decide
  rw [Int32.lt_iff_toInt_lt, nI_toInt (by omega), fb_subI (by rw [e1, e2]; omega) (by rw [e1, e2]; omega), e1, e2]
  omega
theorem op_cases {v : Int32} (h1 : ¬ v < (0 : Int32)) (h2 : ¬ (43 : Int32) < v) : ∃ k, k < 44 ∧ v = nI k := by
  have e0 : (0 : Int32).toInt = 0 := by decide
  have e1 : (43 : Int32).toInt = 43 := by decide
  rw [Int32.lt_iff_toInt_lt] at h1 h2
  exact ⟨v.toInt.toNat, by omega, nI_of_toInt (by omega)⟩
theorem op_none {v : Int32} (p0 : ¬ v < (0 : Int32)) (p1 : ¬ (43 : Int32) < v) (q0 : ¬ v = (0 : Int32)) (q1 : ¬ v = (1 : Int32)) (q2 : ¬ v = (2 : Int32)) (q3 : ¬ v = (3 : Int32)) (q4 : ¬ v = (4 : Int32)) (q5 : ¬ v = (5 : Int32)) (q6 : ¬ v = (6 : Int32)) (q7 : ¬ v = (7 : Int32)) (q8 : ¬ v = (8 : Int32)) (q9 : ¬ v = (9 : Int32)) (q10 : ¬ v = (10 : Int32)) (q11 : ¬ v = (11 : Int32)) (q12 : ¬ v = (12 : Int32)) (q13 : ¬ v = (13 : Int32)) (q14 : ¬ v = (14 : Int32)) (q15 : ¬ v = (15 : Int32)) (q16 : ¬ v = (16 : Int32)) (q17 : ¬ v = (17 : Int32)) (q18 : ¬ v = (18 : Int32)) (q19 : ¬ v = (19 : Int32)) (q20 : ¬ v = (20 : Int32)) (q21 : ¬ v = (21 : Int32)) (q22 : ¬ v = (22 : Int32)) (q23 : ¬ v = (23 : Int32)) (q24 : ¬ v = (24 : Int32)) (q25 : ¬ v = (25 : Int32)) (q26 : ¬ v = (26 : Int32)) (q27 : ¬ v = (27 : Int32)) (q28 : ¬ v = (28 : Int32)) (q29 : ¬ v = (29 : Int32)) (q30 : ¬ v = (30 : Int32)) (q31 : ¬ v = (31 : Int32)) (q32 : ¬ v = (32 : Int32)) (q33 : ¬ v = (33 : Int32)) (q34 : ¬ v = (34 : Int32)) (q35 : ¬ v = (35 : Int32)) (q36 : ¬ v = (36 : Int32)) (q37 : ¬ v = (37 : Int32)) (q38 : ¬ v = (38 : Int32)) (q39 : ¬ v = (39 : Int32)) (q40 : ¬ v = (40 : Int32)) (q41 : ¬ v = (41 : Int32)) (q42 : ¬ v = (42 : Int32)) (q43 : ¬ v = (43 : Int32)) : False := by
  obtain ⟨k, hk, e⟩ := op_cases p0 p1
  match k, hk, e with
  | 0, _, e => exact q0 e
  | 1, _, e => exact q1 e
  | 2, _, e => exact q2 e
  | 3, _, e => exact q3 e
  | 4, _, e => exact q4 e
  | 5, _, e => exact q5 e
  | 6, _, e => exact q6 e
  | 7, _, e => exact q7 e
  | 8, _, e => exact q8 e
  | 9, _, e => exact q9 e
  | 10, _, e => exact q10 e
  | 11, _, e => exact q11 e
  | 12, _, e => exact q12 e
  | 13, _, e => exact q13 e
  | 14, _, e => exact q14 e
  | 15, _, e => exact q15 e
  | 16, _, e => exact q16 e
  | 17, _, e => exact q17 e
  | 18, _, e => exact q18 e
  | 19, _, e => exact q19 e
  | 20, _, e => exact q20 e
  | 21, _, e => exact q21 e
  | 22, _, e => exact q22 e
  | 23, _, e => exact q23 e
  | 24, _, e => exact q24 e
  | 25, _, e => exact q25 e
  | 26, _, e => exact q26 e
  | 27, _, e => exact q27 e
  | 28, _, e => exact q28 e
  | 29, _, e => exact q29 e
  | 30, _, e => exact q30 e
  | 31, _, e => exact q31 e
  | 32, _, e => exact q32 e
  | 33, _, e => exact q33 e
  | 34, _, e => exact q34 e
  | 35, _, e => exact q35 e
  | 36, _, e => exact q36 e
  | 37, _, e => exact q37 e
  | 38, _, e => exact q38 e
  | 39, _, e => exact q39 e
  | 40, _, e => exact q40 e
  | 41, _, e => exact q41 e
  | 42, _, e => exact q42 e
  | 43, _, e => exact q43 e
  | k + 44, hk, _ => exact absurd hk (by omega)
theorem case14h {F L i : Nat} {xs : Nat → Int32} {th : Int32} {a : Nat → Nat} {c k : Int32} {sv : Nat → Option Nat} {n q f l : Nat → Nat → Int32} {bf : Nat → Int32} (h : HI a c sv n q f l k bf) : ∃ out, fL_case14 F L (nI i) xs c th k = some out := by
  obtain ⟨d, -, h2, h3, -⟩ := h
  rw [h2, h3]
  exact case14
theorem case43h {F L i : Nat} {xs nu inF fi la s : Nat → Int32} {th : Int32} {ef el : Nat → Int32} {ec : Nat → Int64} (countX : Int32) (firstX lastX : Nat → Int32) (cellsX : Nat → Int64) (ownerX : Nat → Int32) (openS numbersS : Int64) (leftS : Nat → Int32) (roundsDoneS : Int32) (inSomeS inAllS : Nat → Int64) (manyM : Int32) (tableM : Nat → Int32) (cellsM : Nat → Int64) (ownerM codeM isOverM : Nat → Int32) (roundM : Int32) (allM someM : Nat → Int64) (isRuledM lastM chosenM cornerM wideM : Nat → Int32) (numberW inFieldW firstW lastW : Nat → Int32) (limitW waysW : Int32) (chosenW : Nat → Int32) (numbersN : Int64) (waysN : Int32) (choicesN : Nat → Int32) (hashM : Int64) (hF : 8 ^ 43 < F) (hE : EV ef el ec) (h : BR nu inF fi la s 0) {a : Nat → Nat} {count known : Int32} {sv : Nat → Option Nat} {n0 q f l : Nat → Nat → Int32} {bf : Nat → Int32} (hH : HI a count sv n0 q f l known bf) {n : Nat} (hn : n ≤ 60) {codes buf : Nat → Int32} (hc : ∀ k, k < n → codes k = buf k) {filled kept : Nat → Int32} (hf : ∀ j, j < 2 → (filled j = 0 ∨ filled j = 1) ∧ kept j = filled j) :
    ∃ out, fL_case43 F L (nI i) xs inF count nu fi la s th known countX ec ef firstX el lastX cellsX ownerX openS numbersS leftS roundsDoneS inSomeS inAllS manyM tableM cellsM ownerM codeM isOverM roundM allM someM isRuledM numberW inFieldW firstW lastW limitW waysW chosenW lastM chosenM cornerM wideM (nI n) codes (nI n) buf filled kept numbersN waysN choicesN hashM = some out := by
  obtain ⟨d, -, h2, h3, -⟩ := hH
  rw [h2, h3]
  exact case43 _ _ _ _ _ _ _ _ _ _ _ _ _ _ _ _ _ _ _ _ _ _ _ _ _ _ _ _ _ _ _ _ _ _ _ _ hF hE h hn hc hf
abbrev LTup : Type := Int32 × (Nat → Option Nat) × (Nat → Int32) × (Nat → Int32) × (Nat → Int32) × (Nat → Int32) × (Nat → Int32) × (Nat → Int32) × (Nat → Int32) × (Nat → Int32) × (Nat → Int32) × (Nat → Int32) × (Nat → Int32) × (Nat → Int32) × (Nat → Int32) × (Nat → Int32) × (Nat → Int32) × (Nat → Int32) × (Nat → Int32) × (Nat → Int32) × (Nat → Int32) × (Nat → Int32) × (Nat → Int32) × (Nat → Int32) × (Nat → Int32) × (Nat → Int32) × (Nat → Int32) × (Nat → Int64) × (Nat → Int32) × Int32 × Int32 × (Nat → Int32) × (Nat → Int32) × Int64 × Int32 × (Nat → Int32) × (Nat → Int32) × Int64 × (Nat → Int32) × (Nat → Int32) × (Nat → Int32) × Int32 × (Nat → Int32) × (Nat → Int32) × (Nat → Int64) × (Nat → Int32) × Int64 × Int64 × (Nat → Int32) × Int32 × (Nat → Int64) × (Nat → Int64) × Int32 × (Nat → Int32) × (Nat → Int64) × (Nat → Int32) × (Nat → Int32) × (Nat → Int32) × Int32 × (Nat → Int64) × (Nat → Int64) × (Nat → Int32) × (Nat → Int32) × (Nat → Int32) × (Nat → Int32) × (Nat → Int32) × Int32 × Int32 × (Nat → Int32) × (Nat → Int32) × (Nat → Int32) × (Nat → Int32) × (Nat → Int32) × Int32 × (Nat → Int32) × Int32 × (Nat → Int32) × (Nat → Int32) × (Nat → Int32) × (Nat → Int32) × (Nat → Int32) × (Nat → Int32) × (Nat → Int32) × (Nat → Int32) × (Nat → Int32) × (Nat → Int32) × (Nat → Int32) × (Nat → Int32) × Int64 × Int32 × (Nat → Int32) × (Nat → Int32) × (Nat → Int32) × (Nat → Int32) × (Nat → Int32) × (Nat → Int32) × Int64
def PT (a b : Nat → Nat) (snap : Nat → Option Nat) (t : LTup) : Prop := INV a b snap t.1 t.2.1 t.2.2.1 (six6 t.2.2.2.1 t.2.2.2.2.2.2.2.1 t.2.2.2.2.2.2.2.2.2.2.2.1 t.2.2.2.2.2.2.2.2.2.2.2.2.2.2.2.1 t.2.2.2.2.2.2.2.2.2.2.2.2.2.2.2.2.2.2.2.1 t.2.2.2.2.2.2.2.2.2.2.2.2.2.2.2.2.2.2.2.2.2.2.2.1) (six6 t.2.2.2.2.1 t.2.2.2.2.2.2.2.2.1 t.2.2.2.2.2.2.2.2.2.2.2.2.1 t.2.2.2.2.2.2.2.2.2.2.2.2.2.2.2.2.1 t.2.2.2.2.2.2.2.2.2.2.2.2.2.2.2.2.2.2.2.2.1 t.2.2.2.2.2.2.2.2.2.2.2.2.2.2.2.2.2.2.2.2.2.2.2.2.1) (six6 t.2.2.2.2.2.1 t.2.2.2.2.2.2.2.2.2.1 t.2.2.2.2.2.2.2.2.2.2.2.2.2.1 t.2.2.2.2.2.2.2.2.2.2.2.2.2.2.2.2.2.1 t.2.2.2.2.2.2.2.2.2.2.2.2.2.2.2.2.2.2.2.2.2.1 t.2.2.2.2.2.2.2.2.2.2.2.2.2.2.2.2.2.2.2.2.2.2.2.2.2.1) (six6 t.2.2.2.2.2.2.1 t.2.2.2.2.2.2.2.2.2.2.1 t.2.2.2.2.2.2.2.2.2.2.2.2.2.2.1 t.2.2.2.2.2.2.2.2.2.2.2.2.2.2.2.2.2.2.1 t.2.2.2.2.2.2.2.2.2.2.2.2.2.2.2.2.2.2.2.2.2.2.1 t.2.2.2.2.2.2.2.2.2.2.2.2.2.2.2.2.2.2.2.2.2.2.2.2.2.2.1) t.2.2.2.2.2.2.2.2.2.2.2.2.2.2.2.2.2.2.2.2.2.2.2.2.2.2.2.2.1 t.2.2.2.2.2.2.2.2.2.2.2.2.2.2.2.2.2.2.2.2.2.2.2.2.2.2.2.2.2.2.1 t.2.2.2.2.2.2.2.2.2.2.2.2.2.2.2.2.2.2.2.2.2.2.2.2.2.2.2.2.2.2.2.1 t.2.2.2.2.2.2.2.2.2.2.2.2.2.2.2.2.2.2.2.2.2.2.2.2.2.2.2.2.2.2.2.2.1 t.2.2.2.2.2.2.2.2.2.2.2.2.2.2.2.2.2.2.2.2.2.2.2.2.2.2.2.2.2.2.2.2.2.2.2.2.2.2.2.1 t.2.2.2.2.2.2.2.2.2.2.2.2.2.2.2.2.2.2.2.2.2.2.2.2.2.2.2.2.2.2.2.2.2.2.2.2.2.2.2.2.1 t.2.2.2.2.2.2.2.2.2.2.2.2.2.2.2.2.2.2.2.2.2.2.2.2.2.2.2.2.2.2.2.2.2.2.2.2.2.2.2.2.2.2.2.2.2.2.2.2.2.2.2.2.2.2.2.2.2.2.2.2.2.2.2.2.2.2.2.2.2.2.2.2.2.1 t.2.2.2.2.2.2.2.2.2.2.2.2.2.2.2.2.2.2.2.2.2.2.2.2.2.2.2.2.2.2.2.2.2.2.2.2.2.2.2.2.2.2.2.2.2.2.2.2.2.2.2.2.2.2.2.2.2.2.2.2.2.2.2.2.2.2.2.2.2.2.2.2.2.2.1 t.2.2.2.2.2.2.2.2.2.2.2.2.2.2.2.2.2.2.2.2.2.2.2.2.2.2.2.2.2.2.2.2.2.2.2.2.2.2.2.2.2.2.2.2.2.2.2.2.2.2.2.2.2.2.2.2.2.2.2.2.2.2.2.2.2.2.2.2.2.2.2.2.2.2.2.1 t.2.2.2.2.2.2.2.2.2.2.2.2.2.2.2.2.2.2.2.2.2.2.2.2.2.2.2.2.2.2.2.2.2.2.2.2.2.2.2.2.2.2.2.2.2.2.2.2.2.2.2.2.2.2.2.2.2.2.2.2.2.2.2.2.2.2.2.2.2.2.2.2.2.2.2.2.1 (two2 t.2.2.2.2.2.2.2.2.2.2.2.2.2.2.2.2.2.2.2.2.2.2.2.2.2.2.2.2.2.2.2.2.2.2.2.2.2.2.2.2.2.2.2.2.2.2.2.2.2.2.2.2.2.2.2.2.2.2.2.2.2.2.2.2.2.2.2.2.2.2.2.2.2.2.2.2.2.1 t.2.2.2.2.2.2.2.2.2.2.2.2.2.2.2.2.2.2.2.2.2.2.2.2.2.2.2.2.2.2.2.2.2.2.2.2.2.2.2.2.2.2.2.2.2.2.2.2.2.2.2.2.2.2.2.2.2.2.2.2.2.2.2.2.2.2.2.2.2.2.2.2.2.2.2.2.2.2.2.2.2.2.1) (two2 t.2.2.2.2.2.2.2.2.2.2.2.2.2.2.2.2.2.2.2.2.2.2.2.2.2.2.2.2.2.2.2.2.2.2.2.2.2.2.2.2.2.2.2.2.2.2.2.2.2.2.2.2.2.2.2.2.2.2.2.2.2.2.2.2.2.2.2.2.2.2.2.2.2.2.2.2.2.2.1 t.2.2.2.2.2.2.2.2.2.2.2.2.2.2.2.2.2.2.2.2.2.2.2.2.2.2.2.2.2.2.2.2.2.2.2.2.2.2.2.2.2.2.2.2.2.2.2.2.2.2.2.2.2.2.2.2.2.2.2.2.2.2.2.2.2.2.2.2.2.2.2.2.2.2.2.2.2.2.2.2.2.2.2.1) (two2 t.2.2.2.2.2.2.2.2.2.2.2.2.2.2.2.2.2.2.2.2.2.2.2.2.2.2.2.2.2.2.2.2.2.2.2.2.2.2.2.2.2.2.2.2.2.2.2.2.2.2.2.2.2.2.2.2.2.2.2.2.2.2.2.2.2.2.2.2.2.2.2.2.2.2.2.2.2.2.2.1 t.2.2.2.2.2.2.2.2.2.2.2.2.2.2.2.2.2.2.2.2.2.2.2.2.2.2.2.2.2.2.2.2.2.2.2.2.2.2.2.2.2.2.2.2.2.2.2.2.2.2.2.2.2.2.2.2.2.2.2.2.2.2.2.2.2.2.2.2.2.2.2.2.2.2.2.2.2.2.2.2.2.2.2.2.1) (two2 t.2.2.2.2.2.2.2.2.2.2.2.2.2.2.2.2.2.2.2.2.2.2.2.2.2.2.2.2.2.2.2.2.2.2.2.2.2.2.2.2.2.2.2.2.2.2.2.2.2.2.2.2.2.2.2.2.2.2.2.2.2.2.2.2.2.2.2.2.2.2.2.2.2.2.2.2.2.2.2.2.1 t.2.2.2.2.2.2.2.2.2.2.2.2.2.2.2.2.2.2.2.2.2.2.2.2.2.2.2.2.2.2.2.2.2.2.2.2.2.2.2.2.2.2.2.2.2.2.2.2.2.2.2.2.2.2.2.2.2.2.2.2.2.2.2.2.2.2.2.2.2.2.2.2.2.2.2.2.2.2.2.2.2.2.2.2.2.1) t.2.2.2.2.2.2.2.2.2.2.2.2.2.2.2.2.2.2.2.2.2.2.2.2.2.2.2.2.2.2.2.2.2.2.2.2.2.2.2.2.2.2.2.2.2.2.2.2.2.2.2.2.2.2.2.2.2.2.2.2.2.2.2.2.2.2.2.2.2.2.2.2.2.2.2.2.2.2.2.2.2.1 t.2.2.2.2.2.2.2.2.2.2.2.2.2.2.2.2.2.2.2.2.2.2.2.2.2.2.2.2.2.2.2.2.2.2.2.2.2.2.2.2.2.2.2.2.2.2.2.2.2.2.2.2.2.2.2.2.2.2.2.2.2.2.2.2.2.2.2.2.2.2.2.2.2.2.2.2.2.2.2.2.2.2.2.2.2.2.1 t.2.2.2.2.2.2.2.2.2.2.2.2.2.2.2.2.2.2.2.2.2.2.2.2.2.2.2.2.2.2.2.2.2.2.2.2.2.2.2.2.2.2.2.2.2.2.2.2.2.2.2.2.2.2.2.2.2.2.2.2.2.2.2.2.2.2.2.2.2.2.2.2.2.2.2.2.2.2.2.2.2.2.2.2.2.2.2.1
