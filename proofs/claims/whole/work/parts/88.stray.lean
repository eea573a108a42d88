/-! THE MATHEMATICS: fields that stand otherwise in the first way: the count, the case. Own text. -/
section CSu
variable {F L i : Nat} {xs nu inF fi la s : Nat → Int32} {arr : Nat → Int64} {th : Int32} {ef el : Nat → Int32} {ec : Nat → Int64}
variable {Z : List (Nat × Nat)} {i1 f1 k1 co : Nat → Int32}
/-- the first way on both sides -/
def FW (Z : List (Nat × Nat)) (i1 f1 k1 co : Nat → Int32) : Prop := (∀ k, k < 42 → ∀ r, r ∈ Z → inb r.1 r.2 k = true → i1 k = 1 ∧ f1 k = nI r.1 ∧ k1 k = nI r.2 ∧ co k = nI r.1) ∧ (∀ r, r ∈ Z → RC r.1 r.2) ∧ ∀ k, k < 42 → ∃ r, r ∈ Z ∧ inb r.1 r.2 k = true
theorem FW.uniq (h : FW Z i1 f1 k1 co) {r r' : Nat × Nat} {k : Nat} (hk : k < 42) (hr : r ∈ Z) (hr' : r' ∈ Z) (hb : inb r.1 r.2 k = true) (hb' : inb r'.1 r'.2 k = true) : r = r' := by
  obtain ⟨-, a1, a2, -⟩ := h.1 k hk r hr hb
  obtain ⟨-, b1, b2, -⟩ := h.1 k hk r' hr' hb'
  have c1 := h.2.1 r hr
  have c2 := h.2.1 r' hr'
  unfold RC at c1 c2
  exact Prod.ext (nI_inj (by omega) (by omega) (a1.symm.trans b1)) (nI_inj (by omega) (by omega) (a2.symm.trans b2))
theorem FW.same (w : FW Z i1 f1 k1 co) (h : BR nu inF fi la s 0) {c : Nat} (hc : c < 42) (g : inF c = 1) (hf : fi c = nI c) {r : Nat × Nat} (hr : r ∈ Z) (hb : inb r.1 r.2 c = true) (he : r.1 = c) :
    (∀ j, 0 ≤ j → j < 42 → (s (42 + j) = nI (c + 1) ↔ co j = nI c)) ↔ k1 c = la c := by
  obtain ⟨a, b, hab, hin, e1, e2, e3, -, e4⟩ := h.field hc g
  obtain rfl : a = c := nI_inj (by unfold RC at hab; omega) (by omega) (e1.symm.trans hf)
  obtain ⟨-, -, p2, -⟩ := w.1 a hc r hr hb
  have hR := w.2.1 r hr
  have hco : ∀ j, j < 42 → (co j = nI a ↔ IN j a r.2) := by
    intro j hj
    constructor
    · intro e
      obtain ⟨r2, u1, u2⟩ := w.2.2 j hj
      obtain ⟨-, -, -, p3⟩ := w.1 j hj r2 u1 u2
      have hR2 := w.2.1 r2 u1
      have e5 : r2.1 = a := nI_inj (by unfold RC at hR2; omega) (by omega) (p3.symm.trans e)
      have e6 : inb r2.1 r2.2 a = true := inb_IN.mpr (by unfold RC at hR2; unfold IN; omega)
      have := w.uniq hc u1 hr e6 hb
      rw [this] at u2
      have := inb_IN.mp u2
      rw [he] at this
      exact this
    · intro e
      rw [← he] at e
      obtain ⟨-, -, -, p3⟩ := w.1 j hj r hr (inb_IN.mpr e)
      rw [p3, he]
  have hs : ∀ j, j < 42 → (s (42 + j) = nI (a + 1) ↔ IN j a b) := fun j hj => by
    rw [← e3]
    exact e4 j hj
  rw [he] at hR
  constructor
  · intro H
    have q1 := (hco b hab.2.1).mp ((H b (Nat.zero_le _) hab.2.1).mp ((hs b hab.2.1).mpr (by unfold RC at hab; unfold IN; omega)))
    have q2 := (hs r.2 hR.2.1).mp ((H r.2 (Nat.zero_le _) hR.2.1).mpr ((hco r.2 hR.2.1).mpr (by unfold RC at hR; unfold IN; omega)))
    unfold IN at q1 q2
    rw [p2, e2, show r.2 = b by omega]
  · intro H j _ hj
    rw [p2, e2] at H
    have e5 : r.2 = b := nI_inj (by unfold RC at hR; omega) (by unfold RC at hab; omega) H
    rw [hs j hj, hco j hj, e5]
theorem stray_count (hF : 42 < F) (w : FW Z i1 f1 k1 co) (h : BR nu inF fi la s 0) : ∀ m k N (n : Int32), k + m = 42 → m < N →
    ∃ n', fBoard_countFieldsMissingIn_L4 F inF fi i1 f1 k1 la N n (nI k) = some (n', nI 42) ∧ fM_strayFields_L93 F s co N n (nI k) = some (n', nI 42)
  | 0, k, N, n, hk, hN => by
    obtain ⟨M, rfl⟩ : ∃ M, N = M + 1 := ⟨N - 1, by omega⟩
    rw [show k = 42 by omega, fBoard_countFieldsMissingIn_L4, fM_strayFields_L93, if_pos le42, if_pos le42]
    exact ⟨n, rfl, rfl⟩
  | m + 1, k, N, n, hk, hN => by
    obtain ⟨M, rfl⟩ : ∃ M, N = M + 1 := ⟨N - 1, by omega⟩
    have hk2 : k < 42 := by omega
    have e0 : (42 : Int32) + nI k = nI (42 + k) := nI_add 42 k
    have e2 : nI k + (1 : Int32) = nI (k + 1) := nI_add k 1
    have n0 : n + (0 : Int32) = n := Int32.add_zero n
    suffices H : ∃ v : Int32, (v = 0 ∨ v = 1) ∧ (∀ M, fBoard_countFieldsMissingIn_L4 F inF fi i1 f1 k1 la (M + 1) n (nI k) = fBoard_countFieldsMissingIn_L4 F inF fi i1 f1 k1 la M (n + v) (nI (k + 1))) ∧ ∀ M, fM_strayFields_L93 F s co (M + 1) n (nI k) = fM_strayFields_L93 F s co M (n + v) (nI (k + 1)) by
      obtain ⟨v, -, h1, h2⟩ := H
      obtain ⟨n', h3, h4⟩ := stray_count hF w h m (k + 1) M (n + v) (by omega) (by omega)
      exact ⟨n', (h1 M).trans h3, (h2 M).trans h4⟩
    by_cases cn : inF k ≠ 0 ∧ fi k = nI k
    · have g : inF k = 1 := (h.inF hk2).resolve_left cn.1
      have es : s (42 + k) = nI (k + 1) := by
        obtain ⟨a, b, hab, -, e1, -, e3, -⟩ := h.field hk2 g
        have : a = k := nI_inj (by unfold RC at hab; omega) (by omega) (e1.symm.trans cn.2)
        rw [e3, this]
      obtain ⟨r, r1, r2⟩ := w.2.2 k hk2
      obtain ⟨p1, p2, p3, p4⟩ := w.1 k hk2 r r1 r2
      have hR := w.2.1 r r1
      have hM0 : ∀ (M : Nat) (t : Int32), (co k ≠ nI k → t = 1) → (co k = nI k → ∃ x, fM_isSame F (nI k) s co = some x ∧ t = if ¬ x = (0 : Int32) then 0 else 1) → fM_strayFields_L93 F s co (M + 1) n (nI k) = fM_strayFields_L93 F s co M (n + t) (nI (k + 1)) := by
        intro M t t1 t2
        rw [fM_strayFields_L93, if_neg (ge42 hk2), e0, e2, o_rd_s (show 42 + k < 84 by omega) (by decide), Option.bind_some, if_neg (not_not_intro es), o_rd_s hk2 (by decide)]
        by_cases q : co k = nI k
        · obtain ⟨x, x1, x2⟩ := t2 q
          rw [Option.bind_some, if_neg (not_not_intro q), x1, x2]
          by_cases y : x = 0
          · rw [Option.bind_some, if_neg (not_not_intro y), if_neg (not_not_intro y)]
            rfl
          · rw [Option.bind_some, if_pos y, if_pos y]
            rfl
        · rw [Option.bind_some, if_pos q, t1 q]
          rfl
      have hX0 : ∀ (M : Nat), fBoard_countFieldsMissingIn_L4 F inF fi i1 f1 k1 la (M + 1) n (nI k) = fBoard_countFieldsMissingIn_L4 F inF fi i1 f1 k1 la M (n + if f1 k = nI k ∧ k1 k = la k then 0 else 1) (nI (k + 1)) := by
        intro M
        rw [fBoard_countFieldsMissingIn_L4, if_neg (ge42 hk2), isCorner_s hk2, isCorner_s hk2, if_pos cn, e2, o_rd_s hk2 (by decide), o_rd_s hk2 (by decide), Option.bind_some, if_neg (show ¬ (1 : Int32) = 0 by decide)]
        by_cases q : f1 k = nI k
        · rw [if_pos (show i1 k ≠ 0 ∧ f1 k = nI k from ⟨by rw [p1]; decide, q⟩), Option.bind_some, if_neg (show ¬ (1 : Int32) = 0 by decide), Option.bind_some, Option.bind_some]
          by_cases q2 : k1 k = la k
          · rw [if_pos q2, if_pos ⟨q, q2⟩, n0]
            rfl
          · rw [if_neg q2, if_neg (fun e => q2 e.2)]
            rfl
        · rw [if_neg (show ¬ (i1 k ≠ 0 ∧ f1 k = nI k) from fun e => q e.2), Option.bind_some, if_pos rfl, if_neg (fun e => q e.1)]
          rfl
      refine ⟨if f1 k = nI k ∧ k1 k = la k then 0 else 1, ?_, hX0, fun M => hM0 M _ (fun q => ?_) (fun q => ?_)⟩
      · by_cases q : f1 k = nI k ∧ k1 k = la k
        · rw [if_pos q]; exact Or.inl rfl
        · rw [if_neg q]; exact Or.inr rfl
      · rw [if_neg]
        intro e
        exact q (p4.trans (p2.symm.trans e.1))
      · have e7 : r.1 = k := nI_inj (by unfold RC at hR; omega) (by omega) (p4.symm.trans q)
        obtain ⟨x, x1, x2, x3⟩ := same_L (F := F) (c := k) co s 42 0 F 1 rfl hF (Or.inr rfl)
        have hs := w.same h hk2 g cn.2 r1 r2 e7
        have x4 : x = 1 ↔ k1 k = la k := x3.trans ⟨fun e => hs.mp e.2, fun e => ⟨rfl, hs.mpr e⟩⟩
        have hf1 : f1 k = nI k := by rw [p2, e7]
        refine ⟨x, ?_, ?_⟩
        · unfold fM_isSame
          rw [show fM_isSame_L4 F (nI k) s co F (1 : Int32) (0 : Int32) = _ from x1, Option.bind_some]
          rcases x2 with y | y
          · rw [y]; rfl
          · rw [y]; rfl
        · by_cases q2 : k1 k = la k
          · rw [if_pos ⟨hf1, q2⟩, x4.mpr q2, if_pos (by decide)]
          · rw [if_neg (fun e => q2 e.2), x2.resolve_right (fun e => q2 (x4.mp e)), if_neg (not_not_intro rfl)]
    · have es : ¬ s (42 + k) = nI (k + 1) := by
        intro e
        rcases h.inF hk2 with g | g
        · have := (h.s0 hk2).mpr g
          rw [e] at this
          have := nI_inj (b := 0) (by omega) (by decide) this
          omega
        · obtain ⟨a, b, hab, -, e1, -, e3, -⟩ := h.field hk2 g
          have : a + 1 = k + 1 := nI_inj (by unfold RC at hab; omega) (by omega) (e3.symm.trans e)
          exact cn ⟨by rw [g]; decide, by rw [e1, show a = k by omega]⟩
      refine ⟨0, Or.inl rfl, fun M => ?_, fun M => ?_⟩
      · rw [fBoard_countFieldsMissingIn_L4, if_neg (ge42 hk2), isCorner_s hk2, if_neg cn, e2, Option.bind_some, if_pos rfl, n0]
        rfl
      · rw [fM_strayFields_L93, if_neg (ge42 hk2), e0, e2, o_rd_s (show 42 + k < 84 by omega) (by decide), Option.bind_some, if_pos es]
        rfl
end CSu
