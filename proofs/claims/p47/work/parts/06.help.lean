/-! HELPERS: what the machine reads, writes and divides by, as Option functions; worlds before and behind a method; a call as one row. Own text. -/
def o_rd {α : Type} (n : Nat) (f : Nat → α) (i : Int32) : Option α := if i < 0 ∨ n ≤ i.toNatClampNeg then none else some (f i.toNatClampNeg)
def o_rdq (n : Nat) (f : Nat → Option Nat) (i : Int32) : Option Nat := if i < 0 ∨ n ≤ i.toNatClampNeg then none else f i.toNatClampNeg
def o_wrI (n : Nat) (f : Nat → Int32) (i : Int32) (x : Int32) : Option (Nat → Int32) := if i < 0 ∨ n ≤ i.toNatClampNeg then none else some (upd f i.toNatClampNeg x)
def o_wrZ (n : Nat) (f : Nat → Int32) (i : Int32) (x : Int32) : Option (Nat → Int32) := if i < 0 ∨ n ≤ i.toNatClampNeg then none else some (upd f i.toNatClampNeg (vp_nar .boolean x))
def o_wrJ (n : Nat) (f : Nat → Int64) (i : Int32) (x : Int64) : Option (Nat → Int64) := if i < 0 ∨ n ≤ i.toNatClampNeg then none else some (vp_updL f i.toNatClampNeg x)
def o_wrq (as : List Nat) (n : Nat) (f : Nat → Option Nat) (i : Int32) (a : Nat) : Option (Nat → Option Nat) := if i < 0 ∨ n ≤ i.toNatClampNeg then none else if a ∈ as then some (va_up f i.toNatClampNeg (some a)) else none
def o_divI (x y : Int32) : Option Int32 := if y = 0 then none else some (x / y)
def o_remI (x y : Int32) : Option Int32 := if y = 0 then none else some (x - x / y * y)
def o_divJ (x y : Int64) : Option Int64 := if y = 0 then none else some (x / y)
def o_remJ (x y : Int64) : Option Int64 := if y = 0 then none else some (x - x / y * y)
def o_nn (x : UInt64) : Option UInt64 := if x &&& 0x7fffffffffffffff ≤ 0x7ff0000000000000 then some x else none
def o_z (v : Int32) : Option Int32 := if v = 0 ∨ v = 1 then some v else none
theorem hf_bind {α β : Type} {x : Option α} {g : α → Option β} {o : β} (h : x.bind g = some o) : ∃ v, x = some v ∧ g v = some o := Option.bind_eq_some_iff.mp h
theorem hf_pos {α : Type} {c : Prop} [Decidable c] {a b : Option α} {o : α} (h : c) (e : (if c then a else b) = some o) : a = some o := by rw [if_pos h] at e; exact e
theorem hf_neg {α : Type} {c : Prop} [Decidable c] {a b : Option α} {o : α} (h : ¬ c) (e : (if c then a else b) = some o) : b = some o := by rw [if_neg h] at e; exact e
theorem o_rd_spec {α : Type} {n : Nat} {f : Nat → α} {i : Int32} {v : α} (h : o_rd n f i = some v) : vp_in i n ∧ f i.toNatClampNeg = v := by
  unfold o_rd at h
  by_cases c : i < 0 ∨ n ≤ i.toNatClampNeg
  · rw [if_pos c] at h; cases h
  · rw [if_neg c] at h; exact ⟨c, Option.some.inj h⟩
theorem o_rdq_spec {n : Nat} {f : Nat → Option Nat} {i : Int32} {v : Nat} (h : o_rdq n f i = some v) : vp_in i n ∧ f i.toNatClampNeg = some v := by
  unfold o_rdq at h
  by_cases c : i < 0 ∨ n ≤ i.toNatClampNeg
  · rw [if_pos c] at h; cases h
  · rw [if_neg c] at h; exact ⟨c, h⟩
theorem o_wrI_spec {n : Nat} {f g : Nat → Int32} {i x : Int32} (h : o_wrI n f i x = some g) : vp_in i n ∧ upd f i.toNatClampNeg x = g := by
  unfold o_wrI at h
  by_cases c : i < 0 ∨ n ≤ i.toNatClampNeg
  · rw [if_pos c] at h; cases h
  · rw [if_neg c] at h; exact ⟨c, Option.some.inj h⟩
theorem o_wrZ_spec {n : Nat} {f g : Nat → Int32} {i x : Int32} (h : o_wrZ n f i x = some g) : vp_in i n ∧ upd f i.toNatClampNeg (vp_nar .boolean x) = g := by
  unfold o_wrZ at h
  by_cases c : i < 0 ∨ n ≤ i.toNatClampNeg
  · rw [if_pos c] at h; cases h
  · rw [if_neg c] at h; exact ⟨c, Option.some.inj h⟩
theorem o_wrJ_spec {n : Nat} {f g : Nat → Int64} {i : Int32} {x : Int64} (h : o_wrJ n f i x = some g) : vp_in i n ∧ vp_updL f i.toNatClampNeg x = g := by
  unfold o_wrJ at h
  by_cases c : i < 0 ∨ n ≤ i.toNatClampNeg
  · rw [if_pos c] at h; cases h
  · rw [if_neg c] at h; exact ⟨c, Option.some.inj h⟩
theorem o_wrq_spec {as : List Nat} {n : Nat} {f g : Nat → Option Nat} {i : Int32} {a : Nat} (h : o_wrq as n f i a = some g) : vp_in i n ∧ a ∈ as ∧ va_up f i.toNatClampNeg (some a) = g := by
  unfold o_wrq at h
  by_cases c : i < 0 ∨ n ≤ i.toNatClampNeg
  · rw [if_pos c] at h; cases h
  · rw [if_neg c] at h
    by_cases d : a ∈ as
    · rw [if_pos d] at h; exact ⟨c, d, Option.some.inj h⟩
    · rw [if_neg d] at h; cases h
theorem o_divI_spec {x y v : Int32} (h : o_divI x y = some v) : ¬ y = 0 ∧ x / y = v := by
  unfold o_divI at h
  by_cases c : y = 0
  · rw [if_pos c] at h; cases h
  · rw [if_neg c] at h; exact ⟨c, Option.some.inj h⟩
theorem o_remI_spec {x y v : Int32} (h : o_remI x y = some v) : ¬ y = 0 ∧ x - x / y * y = v := by
  unfold o_remI at h
  by_cases c : y = 0
  · rw [if_pos c] at h; cases h
  · rw [if_neg c] at h; exact ⟨c, Option.some.inj h⟩
theorem o_divJ_spec {x y v : Int64} (h : o_divJ x y = some v) : ¬ y = 0 ∧ x / y = v := by
  unfold o_divJ at h
  by_cases c : y = 0
  · rw [if_pos c] at h; cases h
  · rw [if_neg c] at h; exact ⟨c, Option.some.inj h⟩
theorem o_remJ_spec {x y v : Int64} (h : o_remJ x y = some v) : ¬ y = 0 ∧ x - x / y * y = v := by
  unfold o_remJ at h
  by_cases c : y = 0
  · rw [if_pos c] at h; cases h
  · rw [if_neg c] at h; exact ⟨c, Option.some.inj h⟩
theorem o_nn_spec {x v : UInt64} (h : o_nn x = some v) : vf_n64 x ∧ x = v := by
  unfold o_nn at h
  by_cases c : x &&& 0x7fffffffffffffff ≤ 0x7ff0000000000000
  · rw [if_pos c] at h; exact ⟨c, Option.some.inj h⟩
  · rw [if_neg c] at h; cases h
theorem o_z_spec {x v : Int32} (h : o_z x = some v) : x = v ∧ narrow .boolean (.int v) = .int v := by
  unfold o_z at h
  by_cases c : x = 0 ∨ x = 1
  · rw [if_pos c] at h
    have e := Option.some.inj h
    subst e
    refine ⟨rfl, ?_⟩
    rcases c with rfl | rfl <;> decide
  · rw [if_neg c] at h; cases h
-- the links of nest mates: the private static methods of the outer class
abbrev nwL : List (String × Nat × MethodName) := [(RX5, 41, yX9_sizeOf), (RX5, 64, yX9_rowsOf), (RX5, 67, yX9_columnsOf), (RX5, 70, yX9_cellAt), (RX8, 78, yX9_isCell), (RX8, 86, yX9_has), (RX7, 38, yX9_cellsOf), (RX7, 57, yX9_lowestCell), (RX7, 81, yX9_has), (RX7, 85, yX9_bit), (RX1, 66, yX9_lowestCell), (RX0, 25, yX9_isCell), (RX0, 29, yX9_sizeOf), (RX0, 33, yX9_isInside), (RX0, 44, yX9_bit), (RX0, 57, yX9_has), (RX0, 72, yX9_cellsOf), (RX6, 82, yX9_has), (RX6, 86, yX9_isCell)]
def nw_K (U : State) : Prop := ∀ q ∈ nwL, va_Nw (.methodLinkNest q.1 q.2.1 q.2.2 RX9) U
theorem nw_K.same {u U : State} (h : u.vm = U.vm) (k : nw_K u) : nw_K U := fun q hq => va_Nw.same rfl h (k q hq)
theorem nw_K.warm {s U : State} (hW : s.WarmedH U.vm) (k : nw_K s) : nw_K U := fun q hq => va_Nw.warmM hW (k q hq)
-- a world ahead of a method, and behind it
def wlP (D : va_G) (tys : List (ClassId × FieldType)) (W : va_W) (sz : Nat) (U : State) : Prop := U.heap.size = sz ∧ va_P D vwCl W U.heap ∧ va_K D vwCl tys U ∧ va_D (fun _ => True) W ∧ nw_K U
def wlQ (D : va_G) (A : Nat → Prop) (W : va_W) (_ : Unit) (t : State) : Prop := va_P D vwCl W t.heap ∧ va_D A W
abbrev wlT (cI cZ cJ cQ : ClassId) : List (ClassId × FieldType) := [(cI, .int), (cZ, .boolean), (cJ, .long), (cQ, .object "PaddockFields$Board")]
theorem wl_blind {av : List Value} {D : va_G} {tys : List (ClassId × FieldType)} {W : va_W} {sz : Nat} : FrameBlind (va_Pc av (wlP D tys W sz)) := fun a U g mk q => by
  obtain ⟨q0, q1, qP, qK, qD, qN⟩ := q
  exact ⟨q0, q1, qP, va_K.moved (u := U) (U := U.calling g mk a) (Vm.Alike.refl U.vm) qK, qD, nw_K.same (u := U) rfl qN⟩
theorem wl_pick {ws wc : va_W} {is : List Nat} (h : is.map (fun i => ws[i]?) = wc.map some) : is.filterMap (fun i => ws[i]?) = wc := by
  induction is generalizing wc with
  | nil => cases wc with
    | nil => rfl
    | cons a t => cases h
  | cons i t ih => cases wc with
    | nil => cases h
    | cons a w =>
      simp only [List.map_cons, List.cons.injEq] at h
      rw [List.filterMap_cons, h.1, ih h.2]
theorem wh_preS {s : State} {H : Heap} {D : va_G} {tys : List (ClassId × FieldType)} {A0 : Nat → Prop} {ws wc : va_W} (hK : va_K D vwCl tys s) (hN : nw_K s) (hP : va_P D vwCl ws H) (hD : va_D A0 ws) (isC : List Nat) (hC : isC.map (fun i => ws[i]?) = wc.map some) (hn : va_nd isC = true) {As : List Value} : PreS s H (va_Pc As (wlP D tys wc H.size)) As :=
  ⟨wl_blind, fun U hU hW => ⟨rfl, by rw [hU], by rw [hU]; exact hP.sub isC (wl_pick hC), va_K.moved hW.alike hK, (hD.sub isC hn hC).weaken (fun _ _ _ _ => trivial), nw_K.warm hW hN⟩⟩
theorem wh_preV {s : State} {H : Heap} {D : va_G} {tys : List (ClassId × FieldType)} {A0 : Nat → Prop} {ws wc : va_W} (hK : va_K D vwCl tys s) (hN : nw_K s) (hP : va_P D vwCl ws H) (hD : va_D A0 ws) (isC : List Nat) (hC : isC.map (fun i => ws[i]?) = wc.map some) (hn : va_nd isC = true) (ci q0 : Nat) {C : String} {T : u_T} {N b : Nat} {fs : List Value} (hc : vwCl[ci]? = some (C, T, N)) (he : wc[q0]? = some (b, .inr (ci, fs))) {As : List Value} : PreV s H C b (va_Pc (.ref b :: As) (wlP D tys wc H.size)) As :=
  ⟨wl_blind, va_recv hK (hP.sub isC (wl_pick hC)) (ci := ci) (q0 := q0) hc he, fun U hU hW => ⟨rfl, by rw [hU], by rw [hU]; exact hP.sub isC (wl_pick hC), va_K.moved hW.alike hK, (hD.sub isC hn hC).weaken (fun _ _ _ _ => trivial), nw_K.warm hW hN⟩⟩
/-- behind a call: the world in its own order -/
theorem wh_join {A0 : Nat → Prop} {D : va_G} {ws wc wr w1 ws' : va_W} {H H1 : Heap} (hP : va_P D vwCl ws H) (hD : va_D A0 ws) (isC isR pm : List Nat) (hC : isC.map (fun i => ws[i]?) = wc.map some) (hR : isR.map (fun i => ws[i]?) = wr.map some) (hn : (va_nd isR && (isR.all (fun i => !isC.contains i) && va_nd pm)) = true) (hpm : pm.map (fun i => (wr ++ w1)[i]?) = ws'.map some)
    (hk : ∀ q : Nat, q < H.size → ¬ va_A wc H.size q → H1[q]? = H[q]?) (hF : ∀ q, va_A wc H.size q → A0 q) (hB : va_P D vwCl w1 H1 ∧ va_D (va_A wc H.size) w1) : va_P D vwCl ws' H1 ∧ va_D A0 ws' := by
  rw [Bool.and_eq_true, Bool.and_eq_true] at hn
  have hdis : ∀ i ∈ isR, i ∉ isC := fun i hi hc => by
    have := List.all_eq_true.mp hn.2.1 i hi
    rw [List.contains_iff_mem.mpr hc] at this
    cases this
  obtain ⟨p1, d1⟩ := va_join hP hD isC isR hC hR hn.1 hdis hk hF hB.1 hB.2
  exact ⟨p1.sub pm (wl_pick hpm), d1.sub pm hn.2.2 hpm⟩
section WHV
variable {p : Program} {l : Launch} {e : Env} {R : Room} {s : State} {m : MethodId} {args : Array Value} {below : List Frame} {meth : Method} {c : Code} {H : Heap} {locs : List Loc} {cells slots : Nat} {Q : State → Prop}
variable {cc : ByteArray} {pc : Nat} {ls : Array Slot} {rest st0 : List Value} {D : va_G} {A : Nat → Prop} {a : Nat} {tys : List (ClassId × FieldType)} {ws ws' wc wr w1 : va_W} {H0 : Heap} {av : Array Value}
theorem wh_ldI (hx : p.tables.exec = Jvm.exec) (hb : c.code = cc) (hK : va_K D vwCl tys s) (hP : va_P D vwCl ws H) (q0 t0 : Nat) {cA : ClassId} {n : Nat} {f : Nat → Int32} {v : Int32} (ha : ws[q0]? = some (a, .inl (cA, n, .inl f))) (ht : tys[t0]? = some (cA, .int)) {i : Int32} (hr : o_rd n f i = some v) (hdg : decode cc pc = .ok (.iaload, 1)) (k : W p l e R s m args below meth c H locs cells slots Q (F0 m (pc + 1) ls (.int v :: rest))) : W p l e R s m args below meth c H locs cells slots Q (F0 m pc ls (.int i :: .ref a :: rest)) := by
  obtain ⟨h1, h2⟩ := o_rd_spec hr
  subst h2
  exact va_iald hx hb hK hP q0 t0 ha ht h1 hdg k
theorem wh_ldZ (hx : p.tables.exec = Jvm.exec) (hb : c.code = cc) (hK : va_K D vwCl tys s) (hP : va_P D vwCl ws H) (q0 t0 : Nat) {cA : ClassId} {n : Nat} {f : Nat → Int32} {v : Int32} (ha : ws[q0]? = some (a, .inl (cA, n, .inl f))) (ht : tys[t0]? = some (cA, .boolean)) {i : Int32} (hr : o_rd n f i = some v) (hdg : decode cc pc = .ok (.baload, 1)) (k : W p l e R s m args below meth c H locs cells slots Q (F0 m (pc + 1) ls (.int v :: rest))) : W p l e R s m args below meth c H locs cells slots Q (F0 m pc ls (.int i :: .ref a :: rest)) := by
  obtain ⟨h1, h2⟩ := o_rd_spec hr
  subst h2
  exact va_zald hx hb hK hP q0 t0 ha ht h1 hdg k
theorem wh_ldJ (hx : p.tables.exec = Jvm.exec) (hb : c.code = cc) (hK : va_K D vwCl tys s) (hP : va_P D vwCl ws H) (q0 t0 : Nat) {cA : ClassId} {n : Nat} {f : Nat → Int64} {v : Int64} (ha : ws[q0]? = some (a, .inl (cA, n, .inr (.inl f)))) (ht : tys[t0]? = some (cA, .long)) {i : Int32} (hr : o_rd n f i = some v) (hdg : decode cc pc = .ok (.laload, 1)) (k : W p l e R s m args below meth c H locs cells slots Q (F0 m (pc + 1) ls (.long v :: rest))) : W p l e R s m args below meth c H locs cells slots Q (F0 m pc ls (.int i :: .ref a :: rest)) := by
  obtain ⟨h1, h2⟩ := o_rd_spec hr
  subst h2
  exact va_lald hx hb hK hP q0 t0 ha ht h1 hdg k
theorem wh_ldQ (hx : p.tables.exec = Jvm.exec) (hb : c.code = cc) (hK : va_K D vwCl tys s) (hP : va_P D vwCl ws H) (q0 t0 : Nat) {cA : ClassId} {C : String} {n : Nat} {f : Nat → Option Nat} {v : Nat} (ha : ws[q0]? = some (a, .inl (cA, n, .inr (.inr (.inr (.inr f)))))) (ht : tys[t0]? = some (cA, .object C)) {i : Int32} (hr : o_rdq n f i = some v) (hdg : decode cc pc = .ok (.aaload, 1)) (k : W p l e R s m args below meth c H locs cells slots Q (F0 m (pc + 1) ls (.ref v :: rest))) : W p l e R s m args below meth c H locs cells slots Q (F0 m pc ls (.int i :: .ref a :: rest)) := by
  obtain ⟨h1, h2⟩ := o_rdq_spec hr
  refine va_aldq hx hb hK hP q0 t0 ha ht h1 hdg ?_
  rw [h2]
  exact k
theorem wh_stI (hx : p.tables.exec = Jvm.exec) (hb : c.code = cc) (hK : va_K D vwCl tys s) (hP : va_P D vwCl ws H) (hD : va_D A ws) (hS : va_S A H0 H locs) (q0 t0 : Nat) {cA : ClassId} {n : Nat} {f g : Nat → Int32} (ha : ws[q0]? = some (a, .inl (cA, n, .inl f))) (ht : tys[t0]? = some (cA, .int)) {i x : Int32} (hw : ws.set q0 (a, .inl (cA, n, .inl g)) = ws') (hr : o_wrI n f i x = some g) (hdg : decode cc pc = .ok (.iastore, 1)) (k : ∀ (H1 : Heap) (locs1 : List Loc), va_P D vwCl ws' H1 → va_D A ws' → va_S A H0 H1 locs1 → W p l e R s m args below meth c H1 locs1 cells slots Q (F0 m (pc + 1) ls rest)) : W p l e R s m args below meth c H locs cells slots Q (F0 m pc ls (.int x :: .int i :: .ref a :: rest)) := by
  obtain ⟨h1, h2⟩ := o_wrI_spec hr
  subst h2; subst hw
  exact va_iast hx hb hK hP hD hS q0 t0 ha ht h1 hdg k
theorem wh_stZ (hx : p.tables.exec = Jvm.exec) (hb : c.code = cc) (hK : va_K D vwCl tys s) (hP : va_P D vwCl ws H) (hD : va_D A ws) (hS : va_S A H0 H locs) (q0 t0 : Nat) {cA : ClassId} {n : Nat} {f g : Nat → Int32} (ha : ws[q0]? = some (a, .inl (cA, n, .inl f))) (ht : tys[t0]? = some (cA, .boolean)) {i x : Int32} (hw : ws.set q0 (a, .inl (cA, n, .inl g)) = ws') (hr : o_wrZ n f i x = some g) (hdg : decode cc pc = .ok (.bastore, 1)) (k : ∀ (H1 : Heap) (locs1 : List Loc), va_P D vwCl ws' H1 → va_D A ws' → va_S A H0 H1 locs1 → W p l e R s m args below meth c H1 locs1 cells slots Q (F0 m (pc + 1) ls rest)) : W p l e R s m args below meth c H locs cells slots Q (F0 m pc ls (.int x :: .int i :: .ref a :: rest)) := by
  obtain ⟨h1, h2⟩ := o_wrZ_spec hr
  subst h2; subst hw
  exact va_zast hx hb hK hP hD hS q0 t0 ha ht h1 hdg k
theorem wh_stJ (hx : p.tables.exec = Jvm.exec) (hb : c.code = cc) (hK : va_K D vwCl tys s) (hP : va_P D vwCl ws H) (hD : va_D A ws) (hS : va_S A H0 H locs) (q0 t0 : Nat) {cA : ClassId} {n : Nat} {f g : Nat → Int64} (ha : ws[q0]? = some (a, .inl (cA, n, .inr (.inl f)))) (ht : tys[t0]? = some (cA, .long)) {i : Int32} {x : Int64} (hw : ws.set q0 (a, .inl (cA, n, .inr (.inl g))) = ws') (hr : o_wrJ n f i x = some g) (hdg : decode cc pc = .ok (.lastore, 1)) (k : ∀ (H1 : Heap) (locs1 : List Loc), va_P D vwCl ws' H1 → va_D A ws' → va_S A H0 H1 locs1 → W p l e R s m args below meth c H1 locs1 cells slots Q (F0 m (pc + 1) ls rest)) : W p l e R s m args below meth c H locs cells slots Q (F0 m pc ls (.long x :: .int i :: .ref a :: rest)) := by
  obtain ⟨h1, h2⟩ := o_wrJ_spec hr
  subst h2; subst hw
  exact va_last hx hb hK hP hD hS q0 t0 ha ht h1 hdg k
theorem wh_idiv (hx : p.tables.exec = Jvm.exec) (hb : c.code = cc) {x y v : Int32} (hr : o_divI x y = some v) (hdg : decode cc pc = .ok (.idiv, 1)) (k : W p l e R s m args below meth c H locs cells slots Q (F0 m (pc + 1) ls (.int v :: rest))) : W p l e R s m args below meth c H locs cells slots Q (F0 m pc ls (.int y :: .int x :: rest)) := by
  obtain ⟨h1, h2⟩ := o_divI_spec hr
  subst h2
  exact lv_idiv hx hb hdg h1 k
theorem wh_irem (hx : p.tables.exec = Jvm.exec) (hb : c.code = cc) {x y v : Int32} (hr : o_remI x y = some v) (hdg : decode cc pc = .ok (.irem, 1)) (k : W p l e R s m args below meth c H locs cells slots Q (F0 m (pc + 1) ls (.int v :: rest))) : W p l e R s m args below meth c H locs cells slots Q (F0 m pc ls (.int y :: .int x :: rest)) := by
  obtain ⟨h1, h2⟩ := o_remI_spec hr
  subst h2
  exact lv_irem hx hb hdg h1 k
theorem wh_ldiv (hx : p.tables.exec = Jvm.exec) (hb : c.code = cc) {x y v : Int64} (hr : o_divJ x y = some v) (hdg : decode cc pc = .ok (.ldiv, 1)) (k : W p l e R s m args below meth c H locs cells slots Q (F0 m (pc + 1) ls (.long v :: rest))) : W p l e R s m args below meth c H locs cells slots Q (F0 m pc ls (.long y :: .long x :: rest)) := by
  obtain ⟨h1, h2⟩ := o_divJ_spec hr
  subst h2
  exact lv_ldiv hx hb hdg h1 k
theorem wh_lrem (hx : p.tables.exec = Jvm.exec) (hb : c.code = cc) {x y v : Int64} (hr : o_remJ x y = some v) (hdg : decode cc pc = .ok (.lrem, 1)) (k : W p l e R s m args below meth c H locs cells slots Q (F0 m (pc + 1) ls (.long v :: rest))) : W p l e R s m args below meth c H locs cells slots Q (F0 m pc ls (.long y :: .long x :: rest)) := by
  obtain ⟨h1, h2⟩ := o_remJ_spec hr
  subst h2
  exact lv_lrem hx hb hdg h1 k
theorem wh_ddiv (hx : p.tables.exec = Jvm.exec) (hb : c.code = cc) {x y v : UInt64} (hr : o_nn (FP.ddiv x y) = some v) (hdg : decode cc pc = .ok (.ddiv, 1)) (k : W p l e R s m args below meth c H locs cells slots Q (F0 m (pc + 1) ls (.double v :: rest))) : W p l e R s m args below meth c H locs cells slots Q (F0 m pc ls (.double y :: .double x :: rest)) := by
  obtain ⟨h1, h2⟩ := o_nn_spec hr
  subst h2
  exact lv_ddiv hx hb hdg h1 k
theorem wh_dmul (hx : p.tables.exec = Jvm.exec) (hb : c.code = cc) {x y v : UInt64} (hr : o_nn (FP.dmul x y) = some v) (hdg : decode cc pc = .ok (.dmul, 1)) (k : W p l e R s m args below meth c H locs cells slots Q (F0 m (pc + 1) ls (.double v :: rest))) : W p l e R s m args below meth c H locs cells slots Q (F0 m pc ls (.double y :: .double x :: rest)) := by
  obtain ⟨h1, h2⟩ := o_nn_spec hr
  subst h2
  exact lv_dmul hx hb hdg h1 k
theorem wh_dsub (hx : p.tables.exec = Jvm.exec) (hb : c.code = cc) {x y v : UInt64} (hr : o_nn (FP.dsub x y) = some v) (hdg : decode cc pc = .ok (.dsub, 1)) (k : W p l e R s m args below meth c H locs cells slots Q (F0 m (pc + 1) ls (.double v :: rest))) : W p l e R s m args below meth c H locs cells slots Q (F0 m pc ls (.double y :: .double x :: rest)) := by
  obtain ⟨h1, h2⟩ := o_nn_spec hr
  subst h2
  exact lv_dsub hx hb hdg h1 k
/-- a field is written: the world behind it by its name -/
theorem wh_put (hexec : p.tables.exec = Jvm.exec) (hb : c.code = cc) {own ref C : String} {T : u_T} {N ci index : Nat} {Ts : List Cond} (hts : ∀ w ∈ Ts, w.before args s = true) (hin : ∀ w ∈ u_ws C T N, w ∈ Ts) (ty0 : Nat → FieldType) (hty : ∀ k, k < N → parseFieldDescriptor (T k).2.2.1 = some (ty0 k)) (hnm : ∀ a, a < N → ∀ b, b < N → a ≠ b → (T a).2.1 ≠ (T b).2.1) (hown : s.vm.findClass own = some m.cls) (hK : va_K D vwCl tys s) (hP : va_P D vwCl ws H) (hD : va_D A ws) (hS0 : va_S A H0 H locs) (q0 : Nat) {fs : List Value} (he : ws[q0]? = some (a, .inr (ci, fs))) (hc : vwCl[ci]? = some (C, T, N)) (k : Nat) (hk : k < N) (hlink : (Cond.fieldLink own index ref (T k).2.1 (T k).2.2.1).before args s = true) (hsame : ∀ x, s.fieldFound? (T k).1 (T k).2.1 (T k).2.2.1 = some x → s.fieldFound? ref (T k).2.1 (T k).2.2.1 = some x) (hfin : (T k).2.2.2 = false) {ty : FieldType} {v : Value} (hd : parseFieldDescriptor (T k).2.2.1 = some ty) (hn : narrow ty v = v) (hfit : fits ty v = true) (hl : k < fs.length) (hw : ws.set q0 (a, .inr (ci, fs.set k v)) = ws')
    (hdg : decode cc pc = .ok (.putfield index, 3)) (kk : ∀ (H1 : Heap) (locs1 : List Loc), va_P D vwCl ws' H1 → va_D A ws' → va_S A H0 H1 locs1 → W p l e R s m args below meth c H1 locs1 cells slots Q (F0 m (pc + 3) ls rest)) : W p l e R s m args below meth c H locs cells slots Q (F0 m pc ls (v :: .ref a :: rest)) := by
  subst hw
  exact va_put hexec hb hts hin ty0 hty hnm hown hK hP hD hS0 q0 he hc k hk hlink hsame hfin hd hn hfit hl hdg kk
theorem wq_n {ws : va_W} {ci : Nat} : ∀ v ∈ ([] : List Nat), ∃ (qk : Nat) (vs : List Value), ws[qk]? = some (v, .inr (ci, vs)) := fun _ h => nomatch h
theorem wq_c {ws : va_W} {ci v : Nat} {B : List Nat} (qk : Nat) {vs : List Value} (h : ws[qk]? = some (v, .inr (ci, vs))) (t : ∀ v ∈ B, ∃ (qk : Nat) (vs : List Value), ws[qk]? = some (v, .inr (ci, vs))) : ∀ w ∈ v :: B, ∃ (qk : Nat) (vs : List Value), ws[qk]? = some (w, .inr (ci, vs)) := fun w hw => (List.mem_cons.mp hw).elim (fun e => by rw [e]; exact ⟨qk, vs, h⟩) (t w)
theorem wh_stQ (hx : p.tables.exec = Jvm.exec) (hb : c.code = cc) (hK : va_K D vwCl tys s) (hP : va_P D vwCl ws H) (hD : va_D A ws) (hS : va_S A H0 H locs) (q0 t0 ci : Nat) {cA : ClassId} {r : vw_C} {n v : Nat} {f g : Nat → Option Nat} {as : List Nat} (ha : ws[q0]? = some (a, .inl (cA, n, .inr (.inr (.inr (.inr f)))))) (ht : tys[t0]? = some (cA, .object r.1)) (hc : vwCl[ci]? = some r) (hcand : ∀ v ∈ as, ∃ (qk : Nat) (vs : List Value), ws[qk]? = some (v, .inr (ci, vs))) {i : Int32} (hw : ws.set q0 (a, .inl (cA, n, .inr (.inr (.inr (.inr g))))) = ws') (hr : o_wrq as n f i v = some g) (hdg : decode cc pc = .ok (.aastore, 1)) (k : ∀ (H1 : Heap) (locs1 : List Loc), va_P D vwCl ws' H1 → va_D A ws' → va_S A H0 H1 locs1 → W p l e R s m args below meth c H1 locs1 cells slots Q (F0 m (pc + 1) ls rest)) : W p l e R s m args below meth c H locs cells slots Q (F0 m pc ls (.ref v :: .int i :: .ref a :: rest)) := by
  obtain ⟨h1, h2, h3⟩ := o_wrq_spec hr
  obtain ⟨qk, vs, hv⟩ := hcand v h2
  subst h3; subst hw
  exact va_astq hx hb hK hP hD hS q0 t0 qk ci ha ht hv hc h1 hdg k
theorem wh_calli {v : Int32} (hr : va_Run p l e R s m args below meth c H locs cells slots 0 0 (F0 m pc ls st0) rest (va_Qi (fun (r : Int32) (_ : Unit) => r = v) (wlQ D (va_A wc H.size) w1) (va_A wc H.size) av) (va_A wc H.size)) (hP : va_P D vwCl ws H) (hD : va_D A ws) (hS : va_S A H0 H locs) (hA : ∀ q, H0.size ≤ q → A q) (isC isR pm : List Nat) (hC : isC.map (fun i => ws[i]?) = wc.map some) (hR : isR.map (fun i => ws[i]?) = (isR.filterMap (fun i => ws[i]?)).map some) (hn : (va_nd isR && (isR.all (fun i => !isC.contains i) && va_nd pm)) = true) (hpm : pm.map (fun i => (isR.filterMap (fun i => ws[i]?) ++ w1)[i]?) = ws'.map some)
    (kk : ∀ (H1 : Heap) (locs1 : List Loc), va_P D vwCl ws' H1 → va_D A ws' → va_S A H0 H1 locs1 → W p l e R s m args below meth c H1 locs1 cells slots Q (F0 m (pc + 3) ls (.int v :: rest))) : W p l e R s m args below meth c H locs cells slots Q (F0 m pc ls st0) := by
  have hF := va_free hD hS hA isC hC
  refine va_calli hr hS (fun q _ h => hF q h) hF (fun r u t H1 locs1 ht hvm hw hB hz1 hk1 hS1 => ?_)
  subst hw
  have hB2 : va_P D vwCl w1 H1 ∧ va_D (va_A wc H.size) w1 := by rw [← ht]; exact hB
  obtain ⟨hP1, hD1⟩ := wh_join hP hD isC isR pm hC hR hn hpm hk1 hF hB2
  exact kk H1 locs1 hP1 hD1 hS1
theorem wh_calll {v : Int64} (hr : va_Run p l e R s m args below meth c H locs cells slots 0 0 (F0 m pc ls st0) rest (va_Ql (fun (r : Int64) (_ : Unit) => r = v) (wlQ D (va_A wc H.size) w1) (va_A wc H.size) av) (va_A wc H.size)) (hP : va_P D vwCl ws H) (hD : va_D A ws) (hS : va_S A H0 H locs) (hA : ∀ q, H0.size ≤ q → A q) (isC isR pm : List Nat) (hC : isC.map (fun i => ws[i]?) = wc.map some) (hR : isR.map (fun i => ws[i]?) = (isR.filterMap (fun i => ws[i]?)).map some) (hn : (va_nd isR && (isR.all (fun i => !isC.contains i) && va_nd pm)) = true) (hpm : pm.map (fun i => (isR.filterMap (fun i => ws[i]?) ++ w1)[i]?) = ws'.map some)
    (kk : ∀ (H1 : Heap) (locs1 : List Loc), va_P D vwCl ws' H1 → va_D A ws' → va_S A H0 H1 locs1 → W p l e R s m args below meth c H1 locs1 cells slots Q (F0 m (pc + 3) ls (.long v :: rest))) : W p l e R s m args below meth c H locs cells slots Q (F0 m pc ls st0) := by
  have hF := va_free hD hS hA isC hC
  refine va_calll hr hS (fun q _ h => hF q h) hF (fun r u t H1 locs1 ht hvm hw hB hz1 hk1 hS1 => ?_)
  subst hw
  have hB2 : va_P D vwCl w1 H1 ∧ va_D (va_A wc H.size) w1 := by rw [← ht]; exact hB
  obtain ⟨hP1, hD1⟩ := wh_join hP hD isC isR pm hC hR hn hpm hk1 hF hB2
  exact kk H1 locs1 hP1 hD1 hS1
theorem wh_calld {v : UInt64} (hr : va_Run p l e R s m args below meth c H locs cells slots 0 0 (F0 m pc ls st0) rest (va_Qd (fun (r : UInt64) (_ : Unit) => r = v) (wlQ D (va_A wc H.size) w1) (va_A wc H.size) av) (va_A wc H.size)) (hP : va_P D vwCl ws H) (hD : va_D A ws) (hS : va_S A H0 H locs) (hA : ∀ q, H0.size ≤ q → A q) (isC isR pm : List Nat) (hC : isC.map (fun i => ws[i]?) = wc.map some) (hR : isR.map (fun i => ws[i]?) = (isR.filterMap (fun i => ws[i]?)).map some) (hn : (va_nd isR && (isR.all (fun i => !isC.contains i) && va_nd pm)) = true) (hpm : pm.map (fun i => (isR.filterMap (fun i => ws[i]?) ++ w1)[i]?) = ws'.map some)
    (kk : ∀ (H1 : Heap) (locs1 : List Loc), va_P D vwCl ws' H1 → va_D A ws' → va_S A H0 H1 locs1 → W p l e R s m args below meth c H1 locs1 cells slots Q (F0 m (pc + 3) ls (.double v :: rest))) : W p l e R s m args below meth c H locs cells slots Q (F0 m pc ls st0) := by
  have hF := va_free hD hS hA isC hC
  refine va_calld hr hS (fun q _ h => hF q h) hF (fun r u t H1 locs1 ht hvm hw hB hz1 hk1 hS1 => ?_)
  subst hw
  have hB2 : va_P D vwCl w1 H1 ∧ va_D (va_A wc H.size) w1 := by rw [← ht]; exact hB
  obtain ⟨hP1, hD1⟩ := wh_join hP hD isC isR pm hC hR hn hpm hk1 hF hB2
  exact kk H1 locs1 hP1 hD1 hS1
theorem wh_callv (hr : va_Run p l e R s m args below meth c H locs cells slots 0 0 (F0 m pc ls st0) rest (va_Qv (fun (_ : Unit) => True) (wlQ D (va_A wc H.size) w1) (va_A wc H.size) av) (va_A wc H.size)) (hP : va_P D vwCl ws H) (hD : va_D A ws) (hS : va_S A H0 H locs) (hA : ∀ q, H0.size ≤ q → A q) (isC isR pm : List Nat) (hC : isC.map (fun i => ws[i]?) = wc.map some) (hR : isR.map (fun i => ws[i]?) = (isR.filterMap (fun i => ws[i]?)).map some) (hn : (va_nd isR && (isR.all (fun i => !isC.contains i) && va_nd pm)) = true) (hpm : pm.map (fun i => (isR.filterMap (fun i => ws[i]?) ++ w1)[i]?) = ws'.map some)
    (kk : ∀ (H1 : Heap) (locs1 : List Loc), va_P D vwCl ws' H1 → va_D A ws' → va_S A H0 H1 locs1 → W p l e R s m args below meth c H1 locs1 cells slots Q (F0 m (pc + 3) ls rest)) : W p l e R s m args below meth c H locs cells slots Q (F0 m pc ls st0) := by
  have hF := va_free hD hS hA isC hC
  refine va_callv hr hS (fun q _ h => hF q h) hF (fun u t H1 locs1 ht hvm hw hB hz1 hk1 hS1 => ?_)
  have hB2 : va_P D vwCl w1 H1 ∧ va_D (va_A wc H.size) w1 := by rw [← ht]; exact hB
  obtain ⟨hP1, hD1⟩ := wh_join hP hD isC isR pm hC hR hn hpm hk1 hF hB2
  exact kk H1 locs1 hP1 hD1 hS1
theorem wh_callr {v : Nat} (hr : va_Run p l e R s m args below meth c H locs cells slots 0 0 (F0 m pc ls st0) rest (va_Qr (fun (_ : Unit) => True) (fun (u : Unit) (r : Nat) (t : State) => r = v ∧ wlQ D (va_A wc H.size) w1 u t) (va_A wc H.size) av) (va_A wc H.size)) (hP : va_P D vwCl ws H) (hD : va_D A ws) (hS : va_S A H0 H locs) (hA : ∀ q, H0.size ≤ q → A q) (isC isR pm : List Nat) (hC : isC.map (fun i => ws[i]?) = wc.map some) (hR : isR.map (fun i => ws[i]?) = (isR.filterMap (fun i => ws[i]?)).map some) (hn : (va_nd isR && (isR.all (fun i => !isC.contains i) && va_nd pm)) = true) (hpm : pm.map (fun i => (isR.filterMap (fun i => ws[i]?) ++ w1)[i]?) = ws'.map some)
    (kk : ∀ (H1 : Heap) (locs1 : List Loc), va_P D vwCl ws' H1 → va_D A ws' → va_S A H0 H1 locs1 → W p l e R s m args below meth c H1 locs1 cells slots Q (F0 m (pc + 3) ls (.ref v :: rest))) : W p l e R s m args below meth c H locs cells slots Q (F0 m pc ls st0) := by
  have hF := va_free hD hS hA isC hC
  refine va_callr hr hS (fun q _ h => hF q h) hF (fun u r t H1 locs1 ht hvm hw hB hz1 hk1 hS1 => ?_)
  obtain ⟨hrv, hB⟩ := hB
  subst hrv
  have hB2 : va_P D vwCl w1 H1 ∧ va_D (va_A wc H.size) w1 := by rw [← ht]; exact hB
  obtain ⟨hP1, hD1⟩ := wh_join hP hD isC isR pm hC hR hn hpm hk1 hF hB2
  exact kk H1 locs1 hP1 hD1 hS1
end WHV
section WHO
variable {l : Launch} {y : MethodName} {ws ws' : List Cond} {rm : Room} {cc : ByteArray} {maxL : Nat} {D : va_G} {tys : List (ClassId × FieldType)} {As : List Value} {W0 W1 : va_W} {sz : Nat} {lv : List (Nat × Value)}
theorem wh_ofWi {r : Int32} (own : String) (hy : plainName y.cls = true) (ho : y.cls = own) (hw : ws = Cond.code y cc maxL (some .int) :: ws') (hsl : (lg_sl As).length ≤ maxL) (hlv : lv_args 0 As = lv)
    (body : ∀ (p : Program) (e : Env) (s : State) (m : MethodId) (below : List Frame) (meth : Method) (c : Code) (A : Nat → Prop) (QQ : State → Prop), p.tables.exec = Jvm.exec → c.code = cc → c.maxLocals = maxL → s.vm.findClass own = some m.cls → (∀ w ∈ ws, w.before As.toArray s = true) → va_P D vwCl W0 s.heap → va_K D vwCl tys s → nw_K s → va_D A W0 → (∀ q, s.heap.size ≤ q → A q) →
      (∀ (H : Heap) (locs : List Loc) (pc : Nat) (ls : Array Slot), va_P D vwCl W1 H → va_D A W1 → va_S A s.heap H locs → decode cc pc = .ok (.ireturn, 1) → W p l e rm s m As.toArray below meth c H locs 0 0 QQ (F0 m pc ls [.int r])) →
      ∀ ls : Array Slot, lv_has ls maxL lv → W p l e rm s m As.toArray below meth c s.heap [] 0 0 QQ (F0 m 0 ls [])) :
    Met l y ws rm (va_Pc As (wlP D tys W0 sz)) (va_Qi (fun (v : Int32) (_ : Unit) => v = r) (wlQ D (va_A W0 sz) W1) (va_A W0 sz)) 0 0 (va_A W0 sz) := by
  refine Met.ofW (cc := cc) (maxL := maxL) (ret := (some .int)) hy hw ?_
  intro p e s m args below meth c s₁ B hml hv
  obtain ⟨rfl, hsz, hP, hK, hD0, hN⟩ := hv
  have hx := B.exec
  have hb := B.bytes
  have hr := B.returns
  have hts := atoms_spec (ws := ws) B.pre
  have hown : s.vm.findClass own = some m.cls := by rw [← ho]; exact findClass_of_methodNamed B.named
  have hlocks := B.notSynchronized
  subst hsz
  have hD := hD0.self (sz := s.heap.size)
  generalize hAe : va_A W0 s.heap.size = A at hD ⊢
  have hA : ∀ q : Nat, s.heap.size ≤ q → A q := fun q h => by rw [← hAe]; exact Or.inr h
  have hl := lv_entry As (n := maxL) hsl
  rw [lg_entry_eq]
  rw [hlv] at hl
  exact body p e s m below meth c A _ hx hb hml hown hts hP hK hN hD hA (fun H locs pc ls hP1 hD1 hS1 hdg => W.iret (v := r) hx hb hr (fun t ht hW => ⟨⟨r, (), rfl, rfl, ⟨by rw [ht]; exact hP1, hD1⟩⟩, hS1.F ht⟩) hS1.2.2 hdg) _ hl
theorem wh_ofWz {r : Int32} (own : String) (hy : plainName y.cls = true) (ho : y.cls = own) (hw : ws = Cond.code y cc maxL (some .boolean) :: ws') (hsl : (lg_sl As).length ≤ maxL) (hlv : lv_args 0 As = lv)
    (body : ∀ (p : Program) (e : Env) (s : State) (m : MethodId) (below : List Frame) (meth : Method) (c : Code) (A : Nat → Prop) (QQ : State → Prop), p.tables.exec = Jvm.exec → c.code = cc → c.maxLocals = maxL → s.vm.findClass own = some m.cls → (∀ w ∈ ws, w.before As.toArray s = true) → va_P D vwCl W0 s.heap → va_K D vwCl tys s → nw_K s → va_D A W0 → (∀ q, s.heap.size ≤ q → A q) →
      (∀ (H : Heap) (locs : List Loc) (pc : Nat) (ls : Array Slot), narrow .boolean (.int r) = .int r → va_P D vwCl W1 H → va_D A W1 → va_S A s.heap H locs → decode cc pc = .ok (.ireturn, 1) → W p l e rm s m As.toArray below meth c H locs 0 0 QQ (F0 m pc ls [.int r])) →
      ∀ ls : Array Slot, lv_has ls maxL lv → W p l e rm s m As.toArray below meth c s.heap [] 0 0 QQ (F0 m 0 ls [])) :
    Met l y ws rm (va_Pc As (wlP D tys W0 sz)) (va_Qi (fun (v : Int32) (_ : Unit) => v = r) (wlQ D (va_A W0 sz) W1) (va_A W0 sz)) 0 0 (va_A W0 sz) := by
  refine Met.ofW (cc := cc) (maxL := maxL) (ret := (some .boolean)) hy hw ?_
  intro p e s m args below meth c s₁ B hml hv
  obtain ⟨rfl, hsz, hP, hK, hD0, hN⟩ := hv
  have hx := B.exec
  have hb := B.bytes
  have hr := B.returns
  have hts := atoms_spec (ws := ws) B.pre
  have hown : s.vm.findClass own = some m.cls := by rw [← ho]; exact findClass_of_methodNamed B.named
  have hlocks := B.notSynchronized
  subst hsz
  have hD := hD0.self (sz := s.heap.size)
  generalize hAe : va_A W0 s.heap.size = A at hD ⊢
  have hA : ∀ q : Nat, s.heap.size ≤ q → A q := fun q h => by rw [← hAe]; exact Or.inr h
  have hl := lv_entry As (n := maxL) hsl
  rw [lg_entry_eq]
  rw [hlv] at hl
  exact body p e s m below meth c A _ hx hb hml hown hts hP hK hN hD hA (fun H locs pc ls hn hP1 hD1 hS1 hdg => W.zret (v := r) hx hb hr hn (fun t ht hW => ⟨⟨r, (), rfl, rfl, ⟨by rw [ht]; exact hP1, hD1⟩⟩, hS1.F ht⟩) hS1.2.2 hdg) _ hl
theorem wh_ofWl {r : Int64} (own : String) (hy : plainName y.cls = true) (ho : y.cls = own) (hw : ws = Cond.code y cc maxL (some .long) :: ws') (hsl : (lg_sl As).length ≤ maxL) (hlv : lv_args 0 As = lv)
    (body : ∀ (p : Program) (e : Env) (s : State) (m : MethodId) (below : List Frame) (meth : Method) (c : Code) (A : Nat → Prop) (QQ : State → Prop), p.tables.exec = Jvm.exec → c.code = cc → c.maxLocals = maxL → s.vm.findClass own = some m.cls → (∀ w ∈ ws, w.before As.toArray s = true) → va_P D vwCl W0 s.heap → va_K D vwCl tys s → nw_K s → va_D A W0 → (∀ q, s.heap.size ≤ q → A q) →
      (∀ (H : Heap) (locs : List Loc) (pc : Nat) (ls : Array Slot), va_P D vwCl W1 H → va_D A W1 → va_S A s.heap H locs → decode cc pc = .ok (.lreturn, 1) → W p l e rm s m As.toArray below meth c H locs 0 0 QQ (F0 m pc ls [.long r])) →
      ∀ ls : Array Slot, lv_has ls maxL lv → W p l e rm s m As.toArray below meth c s.heap [] 0 0 QQ (F0 m 0 ls [])) :
    Met l y ws rm (va_Pc As (wlP D tys W0 sz)) (va_Ql (fun (v : Int64) (_ : Unit) => v = r) (wlQ D (va_A W0 sz) W1) (va_A W0 sz)) 0 0 (va_A W0 sz) := by
  refine Met.ofW (cc := cc) (maxL := maxL) (ret := (some .long)) hy hw ?_
  intro p e s m args below meth c s₁ B hml hv
  obtain ⟨rfl, hsz, hP, hK, hD0, hN⟩ := hv
  have hx := B.exec
  have hb := B.bytes
  have hr := B.returns
  have hts := atoms_spec (ws := ws) B.pre
  have hown : s.vm.findClass own = some m.cls := by rw [← ho]; exact findClass_of_methodNamed B.named
  have hlocks := B.notSynchronized
  subst hsz
  have hD := hD0.self (sz := s.heap.size)
  generalize hAe : va_A W0 s.heap.size = A at hD ⊢
  have hA : ∀ q : Nat, s.heap.size ≤ q → A q := fun q h => by rw [← hAe]; exact Or.inr h
  have hl := lv_entry As (n := maxL) hsl
  rw [lg_entry_eq]
  rw [hlv] at hl
  exact body p e s m below meth c A _ hx hb hml hown hts hP hK hN hD hA (fun H locs pc ls hP1 hD1 hS1 hdg => W.lret (v := r) hx hb hr (fun t ht hW => ⟨⟨r, (), rfl, rfl, ⟨by rw [ht]; exact hP1, hD1⟩⟩, hS1.F ht⟩) hS1.2.2 hdg) _ hl
theorem wh_ofWd {r : UInt64} (own : String) (hy : plainName y.cls = true) (ho : y.cls = own) (hw : ws = Cond.code y cc maxL (some .double) :: ws') (hsl : (lg_sl As).length ≤ maxL) (hlv : lv_args 0 As = lv)
    (body : ∀ (p : Program) (e : Env) (s : State) (m : MethodId) (below : List Frame) (meth : Method) (c : Code) (A : Nat → Prop) (QQ : State → Prop), p.tables.exec = Jvm.exec → c.code = cc → c.maxLocals = maxL → s.vm.findClass own = some m.cls → (∀ w ∈ ws, w.before As.toArray s = true) → va_P D vwCl W0 s.heap → va_K D vwCl tys s → nw_K s → va_D A W0 → (∀ q, s.heap.size ≤ q → A q) →
      (∀ (H : Heap) (locs : List Loc) (pc : Nat) (ls : Array Slot), va_P D vwCl W1 H → va_D A W1 → va_S A s.heap H locs → decode cc pc = .ok (.dreturn, 1) → W p l e rm s m As.toArray below meth c H locs 0 0 QQ (F0 m pc ls [.double r])) →
      ∀ ls : Array Slot, lv_has ls maxL lv → W p l e rm s m As.toArray below meth c s.heap [] 0 0 QQ (F0 m 0 ls [])) :
    Met l y ws rm (va_Pc As (wlP D tys W0 sz)) (va_Qd (fun (v : UInt64) (_ : Unit) => v = r) (wlQ D (va_A W0 sz) W1) (va_A W0 sz)) 0 0 (va_A W0 sz) := by
  refine Met.ofW (cc := cc) (maxL := maxL) (ret := (some .double)) hy hw ?_
  intro p e s m args below meth c s₁ B hml hv
  obtain ⟨rfl, hsz, hP, hK, hD0, hN⟩ := hv
  have hx := B.exec
  have hb := B.bytes
  have hr := B.returns
  have hts := atoms_spec (ws := ws) B.pre
  have hown : s.vm.findClass own = some m.cls := by rw [← ho]; exact findClass_of_methodNamed B.named
  have hlocks := B.notSynchronized
  subst hsz
  have hD := hD0.self (sz := s.heap.size)
  generalize hAe : va_A W0 s.heap.size = A at hD ⊢
  have hA : ∀ q : Nat, s.heap.size ≤ q → A q := fun q h => by rw [← hAe]; exact Or.inr h
  have hl := lv_entry As (n := maxL) hsl
  rw [lg_entry_eq]
  rw [hlv] at hl
  exact body p e s m below meth c A _ hx hb hml hown hts hP hK hN hD hA (fun H locs pc ls hP1 hD1 hS1 hdg => W.dret (v := r) hx hb hr (fun t ht hW => ⟨⟨r, (), rfl, rfl, ⟨by rw [ht]; exact hP1, hD1⟩⟩, hS1.F ht⟩) hS1.2.2 hdg) _ hl
theorem wh_ofWv (own : String) (hy : plainName y.cls = true) (ho : y.cls = own) (hw : ws = Cond.code y cc maxL none :: ws') (hsl : (lg_sl As).length ≤ maxL) (hlv : lv_args 0 As = lv)
    (body : ∀ (p : Program) (e : Env) (s : State) (m : MethodId) (below : List Frame) (meth : Method) (c : Code) (A : Nat → Prop) (QQ : State → Prop), p.tables.exec = Jvm.exec → c.code = cc → c.maxLocals = maxL → s.vm.findClass own = some m.cls → (∀ w ∈ ws, w.before As.toArray s = true) → va_P D vwCl W0 s.heap → va_K D vwCl tys s → nw_K s → va_D A W0 → (∀ q, s.heap.size ≤ q → A q) →
      (∀ (H : Heap) (locs : List Loc) (pc : Nat) (ls : Array Slot), va_P D vwCl W1 H → va_D A W1 → va_S A s.heap H locs → decode cc pc = .ok (.return_, 1) → W p l e rm s m As.toArray below meth c H locs 0 0 QQ (F0 m pc ls [])) →
      ∀ ls : Array Slot, lv_has ls maxL lv → W p l e rm s m As.toArray below meth c s.heap [] 0 0 QQ (F0 m 0 ls [])) :
    Met l y ws rm (va_Pc As (wlP D tys W0 sz)) (va_Qv (fun (_ : Unit) => True) (wlQ D (va_A W0 sz) W1) (va_A W0 sz)) 0 0 (va_A W0 sz) := by
  refine Met.ofW (cc := cc) (maxL := maxL) (ret := none) hy hw ?_
  intro p e s m args below meth c s₁ B hml hv
  obtain ⟨rfl, hsz, hP, hK, hD0, hN⟩ := hv
  have hx := B.exec
  have hb := B.bytes
  have hr := B.returns
  have hts := atoms_spec (ws := ws) B.pre
  have hown : s.vm.findClass own = some m.cls := by rw [← ho]; exact findClass_of_methodNamed B.named
  have hlocks := B.notSynchronized
  subst hsz
  have hD := hD0.self (sz := s.heap.size)
  generalize hAe : va_A W0 s.heap.size = A at hD ⊢
  have hA : ∀ q : Nat, s.heap.size ≤ q → A q := fun q h => by rw [← hAe]; exact Or.inr h
  have hl := lv_entry As (n := maxL) hsl
  rw [lg_entry_eq]
  rw [hlv] at hl
  exact body p e s m below meth c A _ hx hb hml hown hts hP hK hN hD hA (fun H locs pc ls hP1 hD1 hS1 hdg => W.vret hx hb hr (fun t ht hW => ⟨⟨(), rfl, trivial, ⟨by rw [ht]; exact hP1, hD1⟩⟩, hS1.F ht⟩) hS1.2.2 hdg) _ hl
theorem wh_ofWr {rc : String} {r : Nat} (own : String) (hy : plainName y.cls = true) (ho : y.cls = own) (hw : ws = Cond.code y cc maxL (some (.object rc)) :: ws') (hsl : (lg_sl As).length ≤ maxL) (hlv : lv_args 0 As = lv)
    (body : ∀ (p : Program) (e : Env) (s : State) (m : MethodId) (below : List Frame) (meth : Method) (c : Code) (A : Nat → Prop) (QQ : State → Prop), p.tables.exec = Jvm.exec → c.code = cc → c.maxLocals = maxL → s.vm.findClass own = some m.cls → (∀ w ∈ ws, w.before As.toArray s = true) → va_P D vwCl W0 s.heap → va_K D vwCl tys s → nw_K s → va_D A W0 → (∀ q, s.heap.size ≤ q → A q) →
      (∀ (H : Heap) (locs : List Loc) (pc : Nat) (ls : Array Slot), va_P D vwCl W1 H → va_D A W1 → va_S A s.heap H locs → decode cc pc = .ok (.areturn, 1) → W p l e rm s m As.toArray below meth c H locs 0 0 QQ (F0 m pc ls [.ref r])) →
      ∀ ls : Array Slot, lv_has ls maxL lv → W p l e rm s m As.toArray below meth c s.heap [] 0 0 QQ (F0 m 0 ls [])) :
    Met l y ws rm (va_Pc As (wlP D tys W0 sz)) (va_Qr (fun (_ : Unit) => True) (fun (u : Unit) (v : Nat) (t : State) => v = r ∧ wlQ D (va_A W0 sz) W1 u t) (va_A W0 sz)) 0 0 (va_A W0 sz) := by
  refine Met.ofW (cc := cc) (maxL := maxL) (ret := (some (.object rc))) hy hw ?_
  intro p e s m args below meth c s₁ B hml hv
  obtain ⟨rfl, hsz, hP, hK, hD0, hN⟩ := hv
  have hx := B.exec
  have hb := B.bytes
  have hr := B.returns
  have hts := atoms_spec (ws := ws) B.pre
  have hown : s.vm.findClass own = some m.cls := by rw [← ho]; exact findClass_of_methodNamed B.named
  have hlocks := B.notSynchronized
  subst hsz
  have hD := hD0.self (sz := s.heap.size)
  generalize hAe : va_A W0 s.heap.size = A at hD ⊢
  have hA : ∀ q : Nat, s.heap.size ≤ q → A q := fun q h => by rw [← hAe]; exact Or.inr h
  have hl := lv_entry As (n := maxL) hsl
  rw [lg_entry_eq]
  rw [hlv] at hl
  exact body p e s m below meth c A _ hx hb hml hown hts hP hK hN hD hA (fun H locs pc ls hP1 hD1 hS1 hdg => W.aret (v := .ref r) hx hb hr (Or.inl ⟨rc, rfl⟩) (Or.inr ⟨r, rfl⟩) (fun t ht hW => ⟨⟨(), r, rfl, trivial, rfl, ⟨by rw [ht]; exact hP1, hD1⟩⟩, hS1.F ht⟩) hS1.2.2 hdg) _ hl
end WHO
