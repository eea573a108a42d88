/-! THE MATHEMATICS: the digest's cells. Own text. -/
section CDi
variable {F L i : Nat} {nu inF fi la s : Nat → Int32}
variable {a : Int32 × (Nat → Int32) × (Nat → Int32) × (Nat → Int64) × (Nat → Int32)} {m : Int32 × (Nat → Int64) × (Nat → Int32) × (Nat → Int32) × (Nat → Int32)} {Lf : Nat × Nat → Bool}
theorem l64_0 : (0 : Int32).toInt64 = (0 : Int64) := by decide
theorem cell_s (hF : 588 < F) (h : BR nu inF fi la s 0) (ha : XI nu (XL nu inF) a) (hm : MI nu (ML nu inF) m) {left over : Nat → Int32} (hl : LX (XL nu inF) Lf left) (ho : LM (ML nu inF) Lf over) {c : Nat} (hc : c < 42) (v : Int64) :
    ∃ w, fX_addCell F (nI c) inF nu v fi la a.1 a.2.2.2.2 a.2.1 a.2.2.1 a.2.2.2.1 left = some w ∧
      ∀ M, fM_digest_L18 F m.1 s m.2.1 m.2.2.1 m.2.2.2.1 over (M + 1) (nI c) v = fM_digest_L18 F m.1 s m.2.1 m.2.2.1 m.2.2.2.1 over M (nI (c + 1)) w := by
  have e0 : (42 : Int32) + nI c = nI (42 + c) := nI_add 42 c
  have e2 : nI c + (1 : Int32) = nI (c + 1) := nI_add c 1
  have es : s c = nu c := by
    have := (h _ hc).2.1
    rwa [Nat.zero_add] at this
  suffices H : ∃ x y : Int64, (∀ g : Int64 → Option Int64, ((show Option Int64 from if inF c = (0 : Int32) then some (0 : Int64) else (fBoard_sizeOfField (nI c) fi la).bind fun s4 => some (s4 + (1 : Int32)).toInt64).bind g = g x)) ∧ (∀ g : Int64 → Option Int64, ((show Option Int64 from if inF c = (0 : Int32) then some (0 : Int64) else (fBoard_firstOfField (nI c) fi).bind fun s7 => some (s7 + (1 : Int32)).toInt64).bind g = g y)) ∧ (∀ g : Int64 → Option (Int32 × Int64), ((show Option Int64 from if s (42 + c) ≤ (0 : Int32) then some (0 : Int64) else (fM_fieldOf F (nI c) s).bind fun s5 => (fM_bits F s5).bind fun s6 => some (s6 + (1 : Int32)).toInt64).bind g = g x)) ∧ (s (42 + c)).toInt64 = y by
    obtain ⟨x, y, h1, h2, h3, h4⟩ := H
    refine ⟨mx (nI ((XL nu inF).countP (lof nu Lf c))).toInt64 (mx (nI (fb_ct (clm nu (XL nu inF) c) 42)).toInt64 (mx (nI ((XL nu inF).countP (fun r => inb r.1 r.2 c))).toInt64 (hs (LK nu inF c) (mx (nI ((XL nu inF).countP (fun r => decide (own nu r = c)))).toInt64 (mx y (mx x (mx (nu c).toInt64 v))))))), ?_, fun M => ?_⟩
    · unfold fX_addCell
      rw [hasField_s hc (h.inF hc), Option.bind_some, numberIn_s hc, Option.bind_some, add_s, Option.bind_some, h1, add_s, Option.bind_some, h2, add_s, Option.bind_some, X_countOf hF ha hc, Option.bind_some, add_s, Option.bind_some, X_list hF ha hc, Option.bind_some, X_countOver hF ha hc, Option.bind_some, add_s, Option.bind_some, X_countOwnersOver hF ha hc, Option.bind_some, add_s, Option.bind_some, X_countLeftOf hF ha hl hc, Option.bind_some, add_s]
      rfl
    · rw [fM_digest_L18, if_neg (ge42 hc), o_rd_s (show c < 84 by omega) (by decide), Option.bind_some, mix_s, Option.bind_some, e0, o_rd_s (show 42 + c < 84 by omega) (by decide), Option.bind_some, h3, mix_s, Option.bind_some, Option.bind_some, mix_s, Option.bind_some, h4, M_countOf hF hm hc, Option.bind_some, mix_s, Option.bind_some, M_list hF hm hc, ML_own nu inF hc, Option.bind_some, M_covering hF hm hc, Option.bind_some, mix_s, Option.bind_some, M_claiming hF hm hc, Option.bind_some, mix_s, Option.bind_some, M_leftIn hF hm ho hc, Option.bind_some, mix_s, Option.bind_some, e2, es]
  rcases h.inF hc with g | g
  · have e3 : s (42 + c) = 0 := (h.s0 hc).mpr g
    refine ⟨0, 0, fun _ => ?_, fun _ => ?_, fun _ => ?_, ?_⟩
    · rw [if_pos g]; rfl
    · rw [if_pos g]; rfl
    · rw [e3, if_pos (by decide)]; rfl
    · rw [e3]; rfl
  · obtain ⟨z, n, hn, z1, z2, z3⟩ := h.size (F := F) (by omega) hc g
    obtain ⟨p, b, hab, hin, e3, e4, e5, -, -⟩ := h.field hc g
    have e6 : ¬ inF c = 0 := by rw [g]; decide
    have e7 : ¬ s (42 + c) ≤ 0 := by
      rw [e5]
      exact nI_nle (by omega) (by unfold RC at hab; omega)
    refine ⟨(nI n + (1 : Int32)).toInt64, (nI p + (1 : Int32)).toInt64, fun _ => ?_, fun _ => ?_, fun _ => ?_, ?_⟩
    · rw [if_neg e6, z3]; rfl
    · rw [if_neg e6, firstOfField_s hc, e3]; rfl
    · rw [if_neg e7, z1, Option.bind_some, z2]; rfl
    · rw [e5]
      rw [show nI p + (1 : Int32) = nI (p + 1) from nI_add p 1]
theorem cells_s (hF : 588 < F) (h : BR nu inF fi la s 0) (ha : XI nu (XL nu inF) a) (hm : MI nu (ML nu inF) m) {left over : Nat → Int32} (hl : LX (XL nu inF) Lf left) (ho : LM (ML nu inF) Lf over) : ∀ n k N (v : Int64), k + n = 42 → n < N →
    ∃ w, fX_digest_L21 F inF nu a.1 a.2.1 a.2.2.1 a.2.2.2.1 a.2.2.2.2 left fi la N (nI k) v = some (nI 42, w) ∧ fM_digest_L18 F m.1 s m.2.1 m.2.2.1 m.2.2.2.1 over N (nI k) v = some (nI 42, w)
  | 0, k, N, v, hk, hN => by
    obtain ⟨M, rfl⟩ : ∃ M, N = M + 1 := ⟨N - 1, by omega⟩
    rw [show k = 42 by omega, fX_digest_L21, fM_digest_L18, if_pos le42, if_pos le42]
    exact ⟨v, rfl, rfl⟩
  | n + 1, k, N, v, hk, hN => by
    obtain ⟨M, rfl⟩ : ∃ M, N = M + 1 := ⟨N - 1, by omega⟩
    have hk2 : k < 42 := by omega
    obtain ⟨w1, h1, h2⟩ := cell_s hF h ha hm hl ho hk2 v
    obtain ⟨w, h3, h4⟩ := cells_s hF h ha hm hl ho n (k + 1) M w1 (by omega) (by omega)
    refine ⟨w, ?_, (h2 M).trans h4⟩
    rw [fX_digest_L21, if_neg (ge42 hk2), h1, Option.bind_some, show nI k + (1 : Int32) = nI (k + 1) from nI_add k 1]
    exact h3
end CDi
