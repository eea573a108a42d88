/-! HELPERS for methods that throw. Own text. -/
def wx_E (c : Nat) (E : String) : Prop := (c = 1 ∧ E = "java/lang/IndexOutOfBoundsException") ∨ (c = 2 ∧ E = "java/lang/IllegalArgumentException") ∨ (c = 3 ∧ E = "java/lang/IllegalStateException")
theorem wx_E.ne {c : Nat} {E : String} (h : wx_E c E) : ¬ c = 0 := by
  rcases h with ⟨rfl, -⟩ | ⟨rfl, -⟩ | ⟨rfl, -⟩ <;> decide
abbrev nsL : List (String × Nat × String) := [(RX9, 76, "a number is 0 to 20"), (RX9, 87, "the cell is in a field"), (RX9, 103, "a seed is 0 to 999999"), (RX9, 129, "the rectangle can't be a field"), (RX9, 171, "a character code is 33 to 126"), (RX9, 176, "the buffer has 60 characters"), (RX9, 189, "there is no such row"), (RX9, 196, "the buffer does not tell a row"), (RX9, 201, "a cell of the row is in a field"), (RX9, 216, "there is no snapshot in the slot"), (RX9, 224, "no state is saved"), (RX9, 246, "not so many rectangles are possible"), (RX9, 284, "no field is certain"), (RX9, 332, "the cell is in no field"), (RX9, 334, "there is a contradiction"), (RX9, 336, "there is no way to fill the board"), (RX9, 338, "there is no such cell"), (RX9, 340, "there is no such rectangle"), (RX9, 342, "a slot is 0 or 1")]
abbrev wx_dR : Cond := .declares (Bundle.initS "java/lang/RuntimeException")
abbrev wx_dE : Cond := .declares (Bundle.initS "java/lang/Exception")
abbrev wx_dT : Cond := .declares (Bundle.initS Bundle.tN)
def wx_K (U : State) : Prop := (va_Nw (.castable "java/lang/IndexOutOfBoundsException" "java/lang/IndexOutOfBoundsException") U ∧ va_Nw (.castable "java/lang/IllegalArgumentException" "java/lang/IllegalArgumentException") U ∧ va_Nw (.castable "java/lang/IllegalStateException" "java/lang/IllegalStateException") U) ∧ (va_Nw wx_dR U ∧ va_Nw wx_dE U ∧ va_Nw wx_dT U) ∧ ∀ q ∈ nsL, ∃ a, vk_R q.1 q.2.1 q.2.2 a U
theorem wx_K.same {u U : State} (h : u.vm = U.vm) (k : wx_K u) : wx_K U := ⟨⟨va_Nw.same rfl h k.1.1, va_Nw.same rfl h k.1.2.1, va_Nw.same rfl h k.1.2.2⟩, ⟨va_Nw.same rfl h k.2.1.1, va_Nw.same rfl h k.2.1.2.1, va_Nw.same rfl h k.2.1.2.2⟩, fun q hq => (k.2.2 q hq).elim fun a ha => ⟨a, vk_R.same h.symm ha⟩⟩
theorem wx_K.warm {s U : State} (hW : s.WarmedH U.vm) (k : wx_K s) : wx_K U := ⟨⟨va_Nw.warmC hW k.1.1, va_Nw.warmC hW k.1.2.1, va_Nw.warmC hW k.1.2.2⟩, ⟨va_Nw.warmD hW k.2.1.1, va_Nw.warmD hW k.2.1.2.1, va_Nw.warmD hW k.2.1.2.2⟩, fun q hq => (k.2.2 q hq).elim fun a ha => ⟨a, vk_R.warm hW ha⟩⟩
def wx_U (A : Nat → Prop) (U : State) (H : Heap) : Prop := vx_Zq Bundle.tN "UNASSIGNED_STACK" Bundle.steD A U H ∧ vx_Zq Bundle.tN "SUPPRESSED_SENTINEL" Bundle.listD A U H
def wxP (D : va_G) (tys : List (ClassId × FieldType)) (W : va_W) (sz : Nat) (U : State) : Prop := wlP D tys W sz U ∧ wx_K U ∧ wx_U (va_A W sz) U U.heap
theorem wx_blind {av : List Value} {D : va_G} {tys : List (ClassId × FieldType)} {W : va_W} {sz : Nat} : FrameBlind (va_Pc av (wxP D tys W sz)) := fun a U g mk q => by
  obtain ⟨q0, ⟨q1, qP, qK, qD, qN⟩, qX, qU⟩ := q
  exact ⟨q0, ⟨q1, qP, va_K.moved (u := U) (U := U.calling g mk a) (Vm.Alike.refl U.vm) qK, qD, nw_K.same (u := U) rfl qN⟩, wx_K.same (u := U) rfl qX, vx_Zq.moved (u := U) (U := U.calling g mk a) (Vm.Alike.refl U.vm) qU.1, vx_Zq.moved (u := U) (U := U.calling g mk a) (Vm.Alike.refl U.vm) qU.2⟩
theorem wx_sub {s U : State} {H : Heap} {D : va_G} {A : Nat → Prop} {ws wc : va_W} {locs : List Loc} (hU : wx_U A s s.heap) (hD : va_D A ws) (hS : va_S A s.heap H locs) (hA : ∀ q, s.heap.size ≤ q → A q) (isC : List Nat) (hC : isC.map (fun i => ws[i]?) = wc.map some) (e : U.heap = H) (hW : s.WarmedH U.vm) : wx_U (va_A wc H.size) U U.heap := by
  have hF := va_free hD hS hA isC hC
  rw [e]
  exact ⟨((hU.1.moved hW.alike).kept hS.2.1).narrow hF, ((hU.2.moved hW.alike).kept hS.2.1).narrow hF⟩
theorem wx_preS {s : State} {H : Heap} {D : va_G} {tys : List (ClassId × FieldType)} {A : Nat → Prop} {ws wc : va_W} {locs : List Loc} (hK : va_K D vwCl tys s) (hN : nw_K s) (hX : wx_K s) (hU : wx_U A s s.heap) (hP : va_P D vwCl ws H) (hD : va_D A ws) (hS : va_S A s.heap H locs) (hA : ∀ q, s.heap.size ≤ q → A q) (isC : List Nat) (hC : isC.map (fun i => ws[i]?) = wc.map some) (hn : va_nd isC = true) {As : List Value} : PreS s H (va_Pc As (wxP D tys wc H.size)) As :=
  ⟨wx_blind, fun U e hW => ⟨rfl, ⟨by rw [e], by rw [e]; exact hP.sub isC (wl_pick hC), va_K.moved hW.alike hK, (hD.sub isC hn hC).weaken (fun _ _ _ _ => trivial), nw_K.warm hW hN⟩, wx_K.warm hW hX, wx_sub (D := D) hU hD hS hA isC hC e hW⟩⟩
theorem wx_preV {s : State} {H : Heap} {D : va_G} {tys : List (ClassId × FieldType)} {A : Nat → Prop} {ws wc : va_W} {locs : List Loc} (hK : va_K D vwCl tys s) (hN : nw_K s) (hX : wx_K s) (hU : wx_U A s s.heap) (hP : va_P D vwCl ws H) (hD : va_D A ws) (hS : va_S A s.heap H locs) (hA : ∀ q, s.heap.size ≤ q → A q) (isC : List Nat) (hC : isC.map (fun i => ws[i]?) = wc.map some) (hn : va_nd isC = true) (ci q0 : Nat) {C : String} {T : u_T} {N b : Nat} {fs : List Value} (hc : vwCl[ci]? = some (C, T, N)) (he : wc[q0]? = some (b, .inr (ci, fs))) {As : List Value} : PreV s H C b (va_Pc (.ref b :: As) (wxP D tys wc H.size)) As :=
  ⟨wx_blind, va_recv hK (hP.sub isC (wl_pick hC)) (ci := ci) (q0 := q0) hc he, fun U e hW => ⟨rfl, ⟨by rw [e], by rw [e]; exact hP.sub isC (wl_pick hC), va_K.moved hW.alike hK, (hD.sub isC hn hC).weaken (fun _ _ _ _ => trivial), nw_K.warm hW hN⟩, wx_K.warm hW hX, wx_sub (D := D) hU hD hS hA isC hC e hW⟩⟩
theorem va_P_grow {D : va_G} {cl : List vw_C} {ws : va_W} {H H1 : Heap} (h : va_P D cl ws H) (hq : ∀ q : Nat, q < H.size → H1[q]? = H[q]?) : va_P D cl ws H1 := h.kept (fun k q hk => hq q.1 (h k q hk).lt)
abbrev wxX (oc : Nat) (D : va_G) (A : Nat → Prop) (W1 : va_W) : String → State → State → Prop := vx_X (fun (_ : Unit) => True) (fun E u t => wx_E oc E ∧ wlQ D A W1 u t) A

section WXV
variable {p : Program} {l : Launch} {e : Env} {R : Room} {s : State} {m : MethodId} {args : Array Value} {below : List Frame} {meth : Method} {c : Code} {H : Heap} {locs : List Loc} {cells slots : Nat} {Q : State → Prop}
variable {cc : ByteArray} {pc : Nat} {ls : Array Slot} {rest st0 : List Value} {D : va_G} {A : Nat → Prop} {ws ws' wc w1 : va_W} {H0 : Heap} {av : Array Value} {mc ms code : Nat}
theorem wx_calli {v : Int32} (hr : vx_Run p l e R s m args below meth c H locs cells slots mc ms (F0 m pc ls st0) rest (va_Qi (fun (r : Int32) (_ : Unit) => code = 0 ∧ r = v) (wlQ D (va_A wc H.size) w1) (va_A wc H.size) av) (wxX code D (va_A wc H.size) w1) (va_A wc H.size)) (hP : va_P D vwCl ws H) (hD : va_D A ws) (hS : va_S A H0 H locs) (hA : ∀ q, H0.size ≤ q → A q) (isC isR pm : List Nat) (hC : isC.map (fun i => ws[i]?) = wc.map some) (hR : isR.map (fun i => ws[i]?) = (isR.filterMap (fun i => ws[i]?)).map some) (hn : (va_nd isR && (isR.all (fun i => !isC.contains i) && va_nd pm)) = true) (hpm : pm.map (fun i => (isR.filterMap (fun i => ws[i]?) ++ w1)[i]?) = ws'.map some)
    (kx : ∀ (E : String) (ce : Cell) (q9 : Addr) (H1 : Heap) (locs1 : List Loc), wx_E code E → va_P D vwCl ws' H1 → va_D A ws' → va_S A H0 H1 locs1 → H1[q9]? = some ce → ce.vm = .none → s.vm.findClass E = some ce.cls → vx_W p l e R s m args below meth c H1 locs1 (cells + mc) (slots + ms) Q (F0 m pc ls rest) q9)
    (kk : ∀ (H1 : Heap) (locs1 : List Loc), code = 0 → va_P D vwCl ws' H1 → va_D A ws' → va_S A H0 H1 locs1 → W p l e R s m args below meth c H1 locs1 (cells + mc) (slots + ms) Q (F0 m (pc + 3) ls (.int v :: rest))) : W p l e R s m args below meth c H locs cells slots Q (F0 m pc ls st0) := by
  have hF := va_free hD hS hA isC hC
  refine vx_calli hr hS (fun q _ h => hF q h) hF (fun q _ h => hF q h) (fun E ce q9 u t H1 locs1 ht hvm _ hB hz1 hk1 hS1 h1 h2 h3 => ?_) (fun r u t H1 locs1 ht hvm hw hB hz1 hk1 hS1 => ?_)
  · obtain ⟨hE, hB⟩ := hB
    have hB2 : va_P D vwCl w1 H1 ∧ va_D (va_A wc H.size) w1 := by rw [← ht]; exact hB
    obtain ⟨hP1, hD1⟩ := wh_join hP hD isC isR pm hC hR hn hpm hk1 hF hB2
    exact kx E ce q9 H1 locs1 hE hP1 hD1 hS1 h1 h2 h3
  · obtain ⟨hw, rfl⟩ := hw
    have hB2 : va_P D vwCl w1 H1 ∧ va_D (va_A wc H.size) w1 := by rw [← ht]; exact hB
    obtain ⟨hP1, hD1⟩ := wh_join hP hD isC isR pm hC hR hn hpm hk1 hF hB2
    exact kk H1 locs1 hw hP1 hD1 hS1
theorem wx_calll {v : Int64} (hr : vx_Run p l e R s m args below meth c H locs cells slots mc ms (F0 m pc ls st0) rest (va_Ql (fun (r : Int64) (_ : Unit) => code = 0 ∧ r = v) (wlQ D (va_A wc H.size) w1) (va_A wc H.size) av) (wxX code D (va_A wc H.size) w1) (va_A wc H.size)) (hP : va_P D vwCl ws H) (hD : va_D A ws) (hS : va_S A H0 H locs) (hA : ∀ q, H0.size ≤ q → A q) (isC isR pm : List Nat) (hC : isC.map (fun i => ws[i]?) = wc.map some) (hR : isR.map (fun i => ws[i]?) = (isR.filterMap (fun i => ws[i]?)).map some) (hn : (va_nd isR && (isR.all (fun i => !isC.contains i) && va_nd pm)) = true) (hpm : pm.map (fun i => (isR.filterMap (fun i => ws[i]?) ++ w1)[i]?) = ws'.map some)
    (kx : ∀ (E : String) (ce : Cell) (q9 : Addr) (H1 : Heap) (locs1 : List Loc), wx_E code E → va_P D vwCl ws' H1 → va_D A ws' → va_S A H0 H1 locs1 → H1[q9]? = some ce → ce.vm = .none → s.vm.findClass E = some ce.cls → vx_W p l e R s m args below meth c H1 locs1 (cells + mc) (slots + ms) Q (F0 m pc ls rest) q9)
    (kk : ∀ (H1 : Heap) (locs1 : List Loc), code = 0 → va_P D vwCl ws' H1 → va_D A ws' → va_S A H0 H1 locs1 → W p l e R s m args below meth c H1 locs1 (cells + mc) (slots + ms) Q (F0 m (pc + 3) ls (.long v :: rest))) : W p l e R s m args below meth c H locs cells slots Q (F0 m pc ls st0) := by
  have hF := va_free hD hS hA isC hC
  refine vx_calll hr hS (fun q _ h => hF q h) hF (fun q _ h => hF q h) (fun E ce q9 u t H1 locs1 ht hvm _ hB hz1 hk1 hS1 h1 h2 h3 => ?_) (fun r u t H1 locs1 ht hvm hw hB hz1 hk1 hS1 => ?_)
  · obtain ⟨hE, hB⟩ := hB
    have hB2 : va_P D vwCl w1 H1 ∧ va_D (va_A wc H.size) w1 := by rw [← ht]; exact hB
    obtain ⟨hP1, hD1⟩ := wh_join hP hD isC isR pm hC hR hn hpm hk1 hF hB2
    exact kx E ce q9 H1 locs1 hE hP1 hD1 hS1 h1 h2 h3
  · obtain ⟨hw, rfl⟩ := hw
    have hB2 : va_P D vwCl w1 H1 ∧ va_D (va_A wc H.size) w1 := by rw [← ht]; exact hB
    obtain ⟨hP1, hD1⟩ := wh_join hP hD isC isR pm hC hR hn hpm hk1 hF hB2
    exact kk H1 locs1 hw hP1 hD1 hS1
theorem wx_calld {v : UInt64} (hr : vx_Run p l e R s m args below meth c H locs cells slots mc ms (F0 m pc ls st0) rest (va_Qd (fun (r : UInt64) (_ : Unit) => code = 0 ∧ r = v) (wlQ D (va_A wc H.size) w1) (va_A wc H.size) av) (wxX code D (va_A wc H.size) w1) (va_A wc H.size)) (hP : va_P D vwCl ws H) (hD : va_D A ws) (hS : va_S A H0 H locs) (hA : ∀ q, H0.size ≤ q → A q) (isC isR pm : List Nat) (hC : isC.map (fun i => ws[i]?) = wc.map some) (hR : isR.map (fun i => ws[i]?) = (isR.filterMap (fun i => ws[i]?)).map some) (hn : (va_nd isR && (isR.all (fun i => !isC.contains i) && va_nd pm)) = true) (hpm : pm.map (fun i => (isR.filterMap (fun i => ws[i]?) ++ w1)[i]?) = ws'.map some)
    (kx : ∀ (E : String) (ce : Cell) (q9 : Addr) (H1 : Heap) (locs1 : List Loc), wx_E code E → va_P D vwCl ws' H1 → va_D A ws' → va_S A H0 H1 locs1 → H1[q9]? = some ce → ce.vm = .none → s.vm.findClass E = some ce.cls → vx_W p l e R s m args below meth c H1 locs1 (cells + mc) (slots + ms) Q (F0 m pc ls rest) q9)
    (kk : ∀ (H1 : Heap) (locs1 : List Loc), code = 0 → va_P D vwCl ws' H1 → va_D A ws' → va_S A H0 H1 locs1 → W p l e R s m args below meth c H1 locs1 (cells + mc) (slots + ms) Q (F0 m (pc + 3) ls (.double v :: rest))) : W p l e R s m args below meth c H locs cells slots Q (F0 m pc ls st0) := by
  have hF := va_free hD hS hA isC hC
  refine vx_calld hr hS (fun q _ h => hF q h) hF (fun q _ h => hF q h) (fun E ce q9 u t H1 locs1 ht hvm _ hB hz1 hk1 hS1 h1 h2 h3 => ?_) (fun r u t H1 locs1 ht hvm hw hB hz1 hk1 hS1 => ?_)
  · obtain ⟨hE, hB⟩ := hB
    have hB2 : va_P D vwCl w1 H1 ∧ va_D (va_A wc H.size) w1 := by rw [← ht]; exact hB
    obtain ⟨hP1, hD1⟩ := wh_join hP hD isC isR pm hC hR hn hpm hk1 hF hB2
    exact kx E ce q9 H1 locs1 hE hP1 hD1 hS1 h1 h2 h3
  · obtain ⟨hw, rfl⟩ := hw
    have hB2 : va_P D vwCl w1 H1 ∧ va_D (va_A wc H.size) w1 := by rw [← ht]; exact hB
    obtain ⟨hP1, hD1⟩ := wh_join hP hD isC isR pm hC hR hn hpm hk1 hF hB2
    exact kk H1 locs1 hw hP1 hD1 hS1
theorem wx_callv (hr : vx_Run p l e R s m args below meth c H locs cells slots mc ms (F0 m pc ls st0) rest (va_Qv (fun (_ : Unit) => code = 0) (wlQ D (va_A wc H.size) w1) (va_A wc H.size) av) (wxX code D (va_A wc H.size) w1) (va_A wc H.size)) (hP : va_P D vwCl ws H) (hD : va_D A ws) (hS : va_S A H0 H locs) (hA : ∀ q, H0.size ≤ q → A q) (isC isR pm : List Nat) (hC : isC.map (fun i => ws[i]?) = wc.map some) (hR : isR.map (fun i => ws[i]?) = (isR.filterMap (fun i => ws[i]?)).map some) (hn : (va_nd isR && (isR.all (fun i => !isC.contains i) && va_nd pm)) = true) (hpm : pm.map (fun i => (isR.filterMap (fun i => ws[i]?) ++ w1)[i]?) = ws'.map some)
    (kx : ∀ (E : String) (ce : Cell) (q9 : Addr) (H1 : Heap) (locs1 : List Loc), wx_E code E → va_P D vwCl ws' H1 → va_D A ws' → va_S A H0 H1 locs1 → H1[q9]? = some ce → ce.vm = .none → s.vm.findClass E = some ce.cls → vx_W p l e R s m args below meth c H1 locs1 (cells + mc) (slots + ms) Q (F0 m pc ls rest) q9)
    (kk : ∀ (H1 : Heap) (locs1 : List Loc), code = 0 → va_P D vwCl ws' H1 → va_D A ws' → va_S A H0 H1 locs1 → W p l e R s m args below meth c H1 locs1 (cells + mc) (slots + ms) Q (F0 m (pc + 3) ls rest)) : W p l e R s m args below meth c H locs cells slots Q (F0 m pc ls st0) := by
  have hF := va_free hD hS hA isC hC
  refine vx_callv hr hS (fun q _ h => hF q h) hF (fun q _ h => hF q h) (fun E ce q9 u t H1 locs1 ht hvm _ hB hz1 hk1 hS1 h1 h2 h3 => ?_) (fun u t H1 locs1 ht hvm hw hB hz1 hk1 hS1 => ?_)
  · obtain ⟨hE, hB⟩ := hB
    have hB2 : va_P D vwCl w1 H1 ∧ va_D (va_A wc H.size) w1 := by rw [← ht]; exact hB
    obtain ⟨hP1, hD1⟩ := wh_join hP hD isC isR pm hC hR hn hpm hk1 hF hB2
    exact kx E ce q9 H1 locs1 hE hP1 hD1 hS1 h1 h2 h3
  · have hw : code = 0 := hw
    have hB2 : va_P D vwCl w1 H1 ∧ va_D (va_A wc H.size) w1 := by rw [← ht]; exact hB
    obtain ⟨hP1, hD1⟩ := wh_join hP hD isC isR pm hC hR hn hpm hk1 hF hB2
    exact kk H1 locs1 hw hP1 hD1 hS1
end WXV
section WXO
variable {l : Launch} {y : MethodName} {ws ws' : List Cond} {rm : Room} {cc : ByteArray} {maxL : Nat} {D : va_G} {tys : List (ClassId × FieldType)} {As : List Value} {W0 W1 : va_W} {sz mc ms oc : Nat} {lv : List (Nat × Value)}
theorem wx_ofWi {r : Int32} (own : String) (hlS : l.stackTraces = false) (hy : plainName y.cls = true) (ho : y.cls = own) (hw : ws = Cond.code y cc maxL (some .int) :: ws') (hrm : rm.cells = mc ∧ rm.slots = ms) (hsl : (lg_sl As).length ≤ maxL) (hlv : lv_args 0 As = lv)
    (body : ∀ (p : Program) (e : Env) (s : State) (m : MethodId) (below : List Frame) (meth : Method) (c : Code) (A : Nat → Prop) (QQ : State → Prop), p.tables.exec = Jvm.exec → c.code = cc → c.maxLocals = maxL → s.vm.findClass own = some m.cls → (∀ w ∈ ws, w.before As.toArray s = true) → va_P D vwCl W0 s.heap → va_K D vwCl tys s → nw_K s → wx_K s → wx_U A s s.heap → va_D A W0 → (∀ q, s.heap.size ≤ q → A q) →
      (∀ (H : Heap) (locs : List Loc) (cells slots pc : Nat) (ls : Array Slot), oc = 0 → cells ≤ mc → slots ≤ ms → va_P D vwCl W1 H → va_D A W1 → va_S A s.heap H locs → decode cc pc = .ok (.ireturn, 1) → W p l e rm s m As.toArray below meth c H locs cells slots QQ (F0 m pc ls [.int r])) →
      (∀ (E : String) (ce : Cell) (q9 : Addr) (H : Heap) (locs : List Loc) (cells slots pc : Nat) (ls : Array Slot) (rest : List Value), wx_E oc E → cells ≤ mc → slots ≤ ms → va_P D vwCl W1 H → va_D A W1 → va_S A s.heap H locs → H[q9]? = some ce → ce.vm = .none → s.vm.findClass E = some ce.cls → vx_W p l e rm s m As.toArray below meth c H locs cells slots QQ (F0 m pc ls rest) q9) →
      (∀ (cls text : String) (names : List String) (ik is ic sa : Nat), Bundle.fit cls = true → (∀ n ∈ names, Bundle.fit n = true) → (Cond.classLink own ik cls).before As.toArray s = true → (Cond.initialized cls).before As.toArray s = true → vk_R own is text sa s → (∀ w ∈ vx_atS own ic cls names, w.before As.toArray s = true) → (∀ w ∈ Cond.classLink own ik cls :: Cond.initialized cls :: vx_atS own ic cls names, vx_ot w = true) → names.length + 3 < rm.frames → 13 * (names.length + 1) + 43 ≤ rm.locals →
        ∀ (H : Heap) (locs : List Loc) (cells slots pc : Nat) (ls : Array Slot), ls.size = maxL → decode cc pc = .ok (.new ik, 3) → decode cc (pc + 3) = .ok (.dup, 1) → decode cc (pc + 4) = .ok (.ldc is, 2) → decode cc (pc + 6) = .ok (.invokespecial ic, 3) → decode cc (pc + 9) = .ok (.athrow, 1) → wx_E oc cls → cells + 1 ≤ mc → slots + 6 ≤ ms → va_P D vwCl W1 H → va_D A W1 → va_S A s.heap H locs → W p l e rm s m As.toArray below meth c H locs cells slots QQ (F0 m pc ls [])) →
      (∀ (cls text : String) (names : List String) (ik is ic sa : Nat), Bundle.fit cls = true → (∀ n ∈ names, Bundle.fit n = true) → (Cond.classLink own ik cls).before As.toArray s = true → (Cond.initialized cls).before As.toArray s = true → vk_R own is text sa s → (∀ w ∈ vx_atS own ic cls names, w.before As.toArray s = true) → (∀ w ∈ Cond.classLink own ik cls :: Cond.initialized cls :: vx_atS own ic cls names, vx_ot w = true) → names.length + 3 < rm.frames → 13 * (names.length + 1) + 43 ≤ rm.locals →
        ∀ (H : Heap) (locs : List Loc) (cells slots pc : Nat) (ls : Array Slot), ls.size = maxL → decode cc pc = .ok (.new ik, 3) → decode cc (pc + 3) = .ok (.dup, 1) → decode cc (pc + 4) = .ok (.ldc_w is, 3) → decode cc (pc + 7) = .ok (.invokespecial ic, 3) → decode cc (pc + 10) = .ok (.athrow, 1) → wx_E oc cls → cells + 1 ≤ mc → slots + 6 ≤ ms → va_P D vwCl W1 H → va_D A W1 → va_S A s.heap H locs → W p l e rm s m As.toArray below meth c H locs cells slots QQ (F0 m pc ls [])) →
      ∀ ls : Array Slot, lv_has ls maxL lv → W p l e rm s m As.toArray below meth c s.heap [] 0 0 QQ (F0 m 0 ls [])) :
    vx_Met l y ws rm (va_Pc As (wxP D tys W0 sz)) (va_Qi (fun (v : Int32) (_ : Unit) => oc = 0 ∧ v = r) (wlQ D (va_A W0 sz) W1) (va_A W0 sz)) (wxX oc D (va_A W0 sz) W1) mc ms (va_A W0 sz) := by
  refine vx_ofW (cc := cc) (maxL := maxL) (ret := (some .int)) hy hw ?_
  intro p e s m args below meth c s₁ B hml hnt hv
  obtain ⟨rfl, ⟨hsz, hP, hK, hD0, hN⟩, hX, hU0⟩ := hv
  have hx := B.exec
  have hb := B.bytes
  have hr := B.returns
  have hts := atoms_spec (ws := ws) B.pre
  have hown : s.vm.findClass own = some m.cls := by rw [← ho]; exact findClass_of_methodNamed B.named
  have hlocks := B.notSynchronized
  subst hsz
  have hD := hD0.self (sz := s.heap.size)
  generalize hAe : va_A W0 s.heap.size = A at hD hU0 ⊢
  have hA : ∀ q : Nat, s.heap.size ≤ q → A q := fun q h => by rw [← hAe]; exact Or.inr h
  have hl := lv_entry As (n := maxL) hsl
  rw [lg_entry_eq]
  rw [hlv] at hl
  refine body p e s m below meth c A _ hx hb hml hown hts hP hK hN hX hU0 hD hA ?_ ?_ ?_ ?_ _ hl
  · intro H locs cells slots pc ls hc hcm hsm hP1 hD1 hS1 hdg
    subst hc
    exact W.widen hcm hsm (vx_ret (W.iret (v := r) hx hb hr (fun t ht hW => ⟨⟨r, (), rfl, ⟨rfl, rfl⟩, ⟨by rw [ht]; exact hP1, hD1⟩⟩, hS1.F ht⟩) hS1.2.2 hdg))
  · intro E ce q9 H locs cells slots pc ls rest hE hcm hsm hP1 hD1 hS1 h1 h2 h3
    exact vx_out (fun x hx9 => (hnt x hx9).elim) hlocks h1 h2 h3 (fun t ht hvm => ⟨(), trivial, ⟨hE, by rw [ht]; exact hP1, hD1⟩, hS1.F ht⟩) hS1.2.2 hcm hsm
  · intro cls text names ik is ic sa hfit hnames hk hini hstr hat hgood hRf hRl H locs cells slots pc ls hsize d0 d3 d4 d6 d9 hE hcm hsm hP1 hD1 hS1
    refine vx_throwS hx hb hlS hown hfit hnames hk hini hstr hat hgood hU0.1 hU0.2 hS1 (hsize.trans hml.symm) d0 d3 d4 d6 d9 (fun x hx9 => (hnt x hx9).elim) hRf ?_ ?_ ?_ hlocks ?_ hS1.2.2 hcm hsm
    · rw [List.map_nil, List.sum_nil, Nat.zero_add]; exact hRl
    · rw [hrm.1]; exact hcm
    · rw [hrm.2]; exact hsm
    · intro t hvm hz hk9
      exact ⟨(), trivial, ⟨hE, va_P_grow hP1 hk9, hD1⟩, ⟨Nat.le_trans hS1.1 hz, fun q h1 h2 => (hk9 q (Nat.lt_of_lt_of_le h1 hS1.1)).trans (hS1.2.1 q h1 h2)⟩⟩
  · intro cls text names ik is ic sa hfit hnames hk hini hstr hat hgood hRf hRl H locs cells slots pc ls hsize d0 d3 d4 d7 d10 hE hcm hsm hP1 hD1 hS1
    refine vx_throwSW hx hb hlS hown hfit hnames hk hini hstr hat hgood hU0.1 hU0.2 hS1 (hsize.trans hml.symm) d0 d3 d4 d7 d10 (fun x hx9 => (hnt x hx9).elim) hRf ?_ ?_ ?_ hlocks ?_ hS1.2.2 hcm hsm
    · rw [List.map_nil, List.sum_nil, Nat.zero_add]; exact hRl
    · rw [hrm.1]; exact hcm
    · rw [hrm.2]; exact hsm
    · intro t hvm hz hk9
      exact ⟨(), trivial, ⟨hE, va_P_grow hP1 hk9, hD1⟩, ⟨Nat.le_trans hS1.1 hz, fun q h1 h2 => (hk9 q (Nat.lt_of_lt_of_le h1 hS1.1)).trans (hS1.2.1 q h1 h2)⟩⟩

theorem wx_ofWz {r : Int32} (own : String) (hlS : l.stackTraces = false) (hy : plainName y.cls = true) (ho : y.cls = own) (hw : ws = Cond.code y cc maxL (some .boolean) :: ws') (hrm : rm.cells = mc ∧ rm.slots = ms) (hsl : (lg_sl As).length ≤ maxL) (hlv : lv_args 0 As = lv)
    (body : ∀ (p : Program) (e : Env) (s : State) (m : MethodId) (below : List Frame) (meth : Method) (c : Code) (A : Nat → Prop) (QQ : State → Prop), p.tables.exec = Jvm.exec → c.code = cc → c.maxLocals = maxL → s.vm.findClass own = some m.cls → (∀ w ∈ ws, w.before As.toArray s = true) → va_P D vwCl W0 s.heap → va_K D vwCl tys s → nw_K s → wx_K s → wx_U A s s.heap → va_D A W0 → (∀ q, s.heap.size ≤ q → A q) →
      (∀ (H : Heap) (locs : List Loc) (cells slots pc : Nat) (ls : Array Slot), oc = 0 → cells ≤ mc → slots ≤ ms → narrow .boolean (.int r) = .int r → va_P D vwCl W1 H → va_D A W1 → va_S A s.heap H locs → decode cc pc = .ok (.ireturn, 1) → W p l e rm s m As.toArray below meth c H locs cells slots QQ (F0 m pc ls [.int r])) →
      (∀ (E : String) (ce : Cell) (q9 : Addr) (H : Heap) (locs : List Loc) (cells slots pc : Nat) (ls : Array Slot) (rest : List Value), wx_E oc E → cells ≤ mc → slots ≤ ms → va_P D vwCl W1 H → va_D A W1 → va_S A s.heap H locs → H[q9]? = some ce → ce.vm = .none → s.vm.findClass E = some ce.cls → vx_W p l e rm s m As.toArray below meth c H locs cells slots QQ (F0 m pc ls rest) q9) →
      (∀ (cls text : String) (names : List String) (ik is ic sa : Nat), Bundle.fit cls = true → (∀ n ∈ names, Bundle.fit n = true) → (Cond.classLink own ik cls).before As.toArray s = true → (Cond.initialized cls).before As.toArray s = true → vk_R own is text sa s → (∀ w ∈ vx_atS own ic cls names, w.before As.toArray s = true) → (∀ w ∈ Cond.classLink own ik cls :: Cond.initialized cls :: vx_atS own ic cls names, vx_ot w = true) → names.length + 3 < rm.frames → 13 * (names.length + 1) + 43 ≤ rm.locals →
        ∀ (H : Heap) (locs : List Loc) (cells slots pc : Nat) (ls : Array Slot), ls.size = maxL → decode cc pc = .ok (.new ik, 3) → decode cc (pc + 3) = .ok (.dup, 1) → decode cc (pc + 4) = .ok (.ldc is, 2) → decode cc (pc + 6) = .ok (.invokespecial ic, 3) → decode cc (pc + 9) = .ok (.athrow, 1) → wx_E oc cls → cells + 1 ≤ mc → slots + 6 ≤ ms → va_P D vwCl W1 H → va_D A W1 → va_S A s.heap H locs → W p l e rm s m As.toArray below meth c H locs cells slots QQ (F0 m pc ls [])) →
      (∀ (cls text : String) (names : List String) (ik is ic sa : Nat), Bundle.fit cls = true → (∀ n ∈ names, Bundle.fit n = true) → (Cond.classLink own ik cls).before As.toArray s = true → (Cond.initialized cls).before As.toArray s = true → vk_R own is text sa s → (∀ w ∈ vx_atS own ic cls names, w.before As.toArray s = true) → (∀ w ∈ Cond.classLink own ik cls :: Cond.initialized cls :: vx_atS own ic cls names, vx_ot w = true) → names.length + 3 < rm.frames → 13 * (names.length + 1) + 43 ≤ rm.locals →
        ∀ (H : Heap) (locs : List Loc) (cells slots pc : Nat) (ls : Array Slot), ls.size = maxL → decode cc pc = .ok (.new ik, 3) → decode cc (pc + 3) = .ok (.dup, 1) → decode cc (pc + 4) = .ok (.ldc_w is, 3) → decode cc (pc + 7) = .ok (.invokespecial ic, 3) → decode cc (pc + 10) = .ok (.athrow, 1) → wx_E oc cls → cells + 1 ≤ mc → slots + 6 ≤ ms → va_P D vwCl W1 H → va_D A W1 → va_S A s.heap H locs → W p l e rm s m As.toArray below meth c H locs cells slots QQ (F0 m pc ls [])) →
      ∀ ls : Array Slot, lv_has ls maxL lv → W p l e rm s m As.toArray below meth c s.heap [] 0 0 QQ (F0 m 0 ls [])) :
    vx_Met l y ws rm (va_Pc As (wxP D tys W0 sz)) (va_Qi (fun (v : Int32) (_ : Unit) => oc = 0 ∧ v = r) (wlQ D (va_A W0 sz) W1) (va_A W0 sz)) (wxX oc D (va_A W0 sz) W1) mc ms (va_A W0 sz) := by
  refine vx_ofW (cc := cc) (maxL := maxL) (ret := (some .boolean)) hy hw ?_
  intro p e s m args below meth c s₁ B hml hnt hv
  obtain ⟨rfl, ⟨hsz, hP, hK, hD0, hN⟩, hX, hU0⟩ := hv
  have hx := B.exec
  have hb := B.bytes
  have hr := B.returns
  have hts := atoms_spec (ws := ws) B.pre
  have hown : s.vm.findClass own = some m.cls := by rw [← ho]; exact findClass_of_methodNamed B.named
  have hlocks := B.notSynchronized
  subst hsz
  have hD := hD0.self (sz := s.heap.size)
  generalize hAe : va_A W0 s.heap.size = A at hD hU0 ⊢
  have hA : ∀ q : Nat, s.heap.size ≤ q → A q := fun q h => by rw [← hAe]; exact Or.inr h
  have hl := lv_entry As (n := maxL) hsl
  rw [lg_entry_eq]
  rw [hlv] at hl
  refine body p e s m below meth c A _ hx hb hml hown hts hP hK hN hX hU0 hD hA ?_ ?_ ?_ ?_ _ hl
  · intro H locs cells slots pc ls hc hcm hsm hn hP1 hD1 hS1 hdg
    subst hc
    exact W.widen hcm hsm (vx_ret (W.zret (v := r) hx hb hr hn (fun t ht hW => ⟨⟨r, (), rfl, ⟨rfl, rfl⟩, ⟨by rw [ht]; exact hP1, hD1⟩⟩, hS1.F ht⟩) hS1.2.2 hdg))
  · intro E ce q9 H locs cells slots pc ls rest hE hcm hsm hP1 hD1 hS1 h1 h2 h3
    exact vx_out (fun x hx9 => (hnt x hx9).elim) hlocks h1 h2 h3 (fun t ht hvm => ⟨(), trivial, ⟨hE, by rw [ht]; exact hP1, hD1⟩, hS1.F ht⟩) hS1.2.2 hcm hsm
  · intro cls text names ik is ic sa hfit hnames hk hini hstr hat hgood hRf hRl H locs cells slots pc ls hsize d0 d3 d4 d6 d9 hE hcm hsm hP1 hD1 hS1
    refine vx_throwS hx hb hlS hown hfit hnames hk hini hstr hat hgood hU0.1 hU0.2 hS1 (hsize.trans hml.symm) d0 d3 d4 d6 d9 (fun x hx9 => (hnt x hx9).elim) hRf ?_ ?_ ?_ hlocks ?_ hS1.2.2 hcm hsm
    · rw [List.map_nil, List.sum_nil, Nat.zero_add]; exact hRl
    · rw [hrm.1]; exact hcm
    · rw [hrm.2]; exact hsm
    · intro t hvm hz hk9
      exact ⟨(), trivial, ⟨hE, va_P_grow hP1 hk9, hD1⟩, ⟨Nat.le_trans hS1.1 hz, fun q h1 h2 => (hk9 q (Nat.lt_of_lt_of_le h1 hS1.1)).trans (hS1.2.1 q h1 h2)⟩⟩
  · intro cls text names ik is ic sa hfit hnames hk hini hstr hat hgood hRf hRl H locs cells slots pc ls hsize d0 d3 d4 d7 d10 hE hcm hsm hP1 hD1 hS1
    refine vx_throwSW hx hb hlS hown hfit hnames hk hini hstr hat hgood hU0.1 hU0.2 hS1 (hsize.trans hml.symm) d0 d3 d4 d7 d10 (fun x hx9 => (hnt x hx9).elim) hRf ?_ ?_ ?_ hlocks ?_ hS1.2.2 hcm hsm
    · rw [List.map_nil, List.sum_nil, Nat.zero_add]; exact hRl
    · rw [hrm.1]; exact hcm
    · rw [hrm.2]; exact hsm
    · intro t hvm hz hk9
      exact ⟨(), trivial, ⟨hE, va_P_grow hP1 hk9, hD1⟩, ⟨Nat.le_trans hS1.1 hz, fun q h1 h2 => (hk9 q (Nat.lt_of_lt_of_le h1 hS1.1)).trans (hS1.2.1 q h1 h2)⟩⟩

theorem wx_ofWv (own : String) (hlS : l.stackTraces = false) (hy : plainName y.cls = true) (ho : y.cls = own) (hw : ws = Cond.code y cc maxL none :: ws') (hrm : rm.cells = mc ∧ rm.slots = ms) (hsl : (lg_sl As).length ≤ maxL) (hlv : lv_args 0 As = lv)
    (body : ∀ (p : Program) (e : Env) (s : State) (m : MethodId) (below : List Frame) (meth : Method) (c : Code) (A : Nat → Prop) (QQ : State → Prop), p.tables.exec = Jvm.exec → c.code = cc → c.maxLocals = maxL → s.vm.findClass own = some m.cls → (∀ w ∈ ws, w.before As.toArray s = true) → va_P D vwCl W0 s.heap → va_K D vwCl tys s → nw_K s → wx_K s → wx_U A s s.heap → va_D A W0 → (∀ q, s.heap.size ≤ q → A q) →
      (∀ (H : Heap) (locs : List Loc) (cells slots pc : Nat) (ls : Array Slot), oc = 0 → cells ≤ mc → slots ≤ ms → va_P D vwCl W1 H → va_D A W1 → va_S A s.heap H locs → decode cc pc = .ok (.return_, 1) → W p l e rm s m As.toArray below meth c H locs cells slots QQ (F0 m pc ls [])) →
      (∀ (E : String) (ce : Cell) (q9 : Addr) (H : Heap) (locs : List Loc) (cells slots pc : Nat) (ls : Array Slot) (rest : List Value), wx_E oc E → cells ≤ mc → slots ≤ ms → va_P D vwCl W1 H → va_D A W1 → va_S A s.heap H locs → H[q9]? = some ce → ce.vm = .none → s.vm.findClass E = some ce.cls → vx_W p l e rm s m As.toArray below meth c H locs cells slots QQ (F0 m pc ls rest) q9) →
      (∀ (cls text : String) (names : List String) (ik is ic sa : Nat), Bundle.fit cls = true → (∀ n ∈ names, Bundle.fit n = true) → (Cond.classLink own ik cls).before As.toArray s = true → (Cond.initialized cls).before As.toArray s = true → vk_R own is text sa s → (∀ w ∈ vx_atS own ic cls names, w.before As.toArray s = true) → (∀ w ∈ Cond.classLink own ik cls :: Cond.initialized cls :: vx_atS own ic cls names, vx_ot w = true) → names.length + 3 < rm.frames → 13 * (names.length + 1) + 43 ≤ rm.locals →
        ∀ (H : Heap) (locs : List Loc) (cells slots pc : Nat) (ls : Array Slot), ls.size = maxL → decode cc pc = .ok (.new ik, 3) → decode cc (pc + 3) = .ok (.dup, 1) → decode cc (pc + 4) = .ok (.ldc is, 2) → decode cc (pc + 6) = .ok (.invokespecial ic, 3) → decode cc (pc + 9) = .ok (.athrow, 1) → wx_E oc cls → cells + 1 ≤ mc → slots + 6 ≤ ms → va_P D vwCl W1 H → va_D A W1 → va_S A s.heap H locs → W p l e rm s m As.toArray below meth c H locs cells slots QQ (F0 m pc ls [])) →
      (∀ (cls text : String) (names : List String) (ik is ic sa : Nat), Bundle.fit cls = true → (∀ n ∈ names, Bundle.fit n = true) → (Cond.classLink own ik cls).before As.toArray s = true → (Cond.initialized cls).before As.toArray s = true → vk_R own is text sa s → (∀ w ∈ vx_atS own ic cls names, w.before As.toArray s = true) → (∀ w ∈ Cond.classLink own ik cls :: Cond.initialized cls :: vx_atS own ic cls names, vx_ot w = true) → names.length + 3 < rm.frames → 13 * (names.length + 1) + 43 ≤ rm.locals →
        ∀ (H : Heap) (locs : List Loc) (cells slots pc : Nat) (ls : Array Slot), ls.size = maxL → decode cc pc = .ok (.new ik, 3) → decode cc (pc + 3) = .ok (.dup, 1) → decode cc (pc + 4) = .ok (.ldc_w is, 3) → decode cc (pc + 7) = .ok (.invokespecial ic, 3) → decode cc (pc + 10) = .ok (.athrow, 1) → wx_E oc cls → cells + 1 ≤ mc → slots + 6 ≤ ms → va_P D vwCl W1 H → va_D A W1 → va_S A s.heap H locs → W p l e rm s m As.toArray below meth c H locs cells slots QQ (F0 m pc ls [])) →
      ∀ ls : Array Slot, lv_has ls maxL lv → W p l e rm s m As.toArray below meth c s.heap [] 0 0 QQ (F0 m 0 ls [])) :
    vx_Met l y ws rm (va_Pc As (wxP D tys W0 sz)) (va_Qv (fun (_ : Unit) => oc = 0) (wlQ D (va_A W0 sz) W1) (va_A W0 sz)) (wxX oc D (va_A W0 sz) W1) mc ms (va_A W0 sz) := by
  refine vx_ofW (cc := cc) (maxL := maxL) (ret := none) hy hw ?_
  intro p e s m args below meth c s₁ B hml hnt hv
  obtain ⟨rfl, ⟨hsz, hP, hK, hD0, hN⟩, hX, hU0⟩ := hv
  have hx := B.exec
  have hb := B.bytes
  have hr := B.returns
  have hts := atoms_spec (ws := ws) B.pre
  have hown : s.vm.findClass own = some m.cls := by rw [← ho]; exact findClass_of_methodNamed B.named
  have hlocks := B.notSynchronized
  subst hsz
  have hD := hD0.self (sz := s.heap.size)
  generalize hAe : va_A W0 s.heap.size = A at hD hU0 ⊢
  have hA : ∀ q : Nat, s.heap.size ≤ q → A q := fun q h => by rw [← hAe]; exact Or.inr h
  have hl := lv_entry As (n := maxL) hsl
  rw [lg_entry_eq]
  rw [hlv] at hl
  refine body p e s m below meth c A _ hx hb hml hown hts hP hK hN hX hU0 hD hA ?_ ?_ ?_ ?_ _ hl
  · intro H locs cells slots pc ls hc hcm hsm hP1 hD1 hS1 hdg
    subst hc
    exact W.widen hcm hsm (vx_ret (W.vret hx hb hr (fun t ht hW => ⟨⟨(), rfl, rfl, ⟨by rw [ht]; exact hP1, hD1⟩⟩, hS1.F ht⟩) hS1.2.2 hdg))
  · intro E ce q9 H locs cells slots pc ls rest hE hcm hsm hP1 hD1 hS1 h1 h2 h3
    exact vx_out (fun x hx9 => (hnt x hx9).elim) hlocks h1 h2 h3 (fun t ht hvm => ⟨(), trivial, ⟨hE, by rw [ht]; exact hP1, hD1⟩, hS1.F ht⟩) hS1.2.2 hcm hsm
  · intro cls text names ik is ic sa hfit hnames hk hini hstr hat hgood hRf hRl H locs cells slots pc ls hsize d0 d3 d4 d6 d9 hE hcm hsm hP1 hD1 hS1
    refine vx_throwS hx hb hlS hown hfit hnames hk hini hstr hat hgood hU0.1 hU0.2 hS1 (hsize.trans hml.symm) d0 d3 d4 d6 d9 (fun x hx9 => (hnt x hx9).elim) hRf ?_ ?_ ?_ hlocks ?_ hS1.2.2 hcm hsm
    · rw [List.map_nil, List.sum_nil, Nat.zero_add]; exact hRl
    · rw [hrm.1]; exact hcm
    · rw [hrm.2]; exact hsm
    · intro t hvm hz hk9
      exact ⟨(), trivial, ⟨hE, va_P_grow hP1 hk9, hD1⟩, ⟨Nat.le_trans hS1.1 hz, fun q h1 h2 => (hk9 q (Nat.lt_of_lt_of_le h1 hS1.1)).trans (hS1.2.1 q h1 h2)⟩⟩
  · intro cls text names ik is ic sa hfit hnames hk hini hstr hat hgood hRf hRl H locs cells slots pc ls hsize d0 d3 d4 d7 d10 hE hcm hsm hP1 hD1 hS1
    refine vx_throwSW hx hb hlS hown hfit hnames hk hini hstr hat hgood hU0.1 hU0.2 hS1 (hsize.trans hml.symm) d0 d3 d4 d7 d10 (fun x hx9 => (hnt x hx9).elim) hRf ?_ ?_ ?_ hlocks ?_ hS1.2.2 hcm hsm
    · rw [List.map_nil, List.sum_nil, Nat.zero_add]; exact hRl
    · rw [hrm.1]; exact hcm
    · rw [hrm.2]; exact hsm
    · intro t hvm hz hk9
      exact ⟨(), trivial, ⟨hE, va_P_grow hP1 hk9, hD1⟩, ⟨Nat.le_trans hS1.1 hz, fun q h1 h2 => (hk9 q (Nat.lt_of_lt_of_le h1 hS1.1)).trans (hS1.2.1 q h1 h2)⟩⟩

theorem wh_ofWlN {r : Int64} (own : String) (hy : plainName y.cls = true) (ho : y.cls = own) (hw : ws = Cond.code y cc maxL (some .long) :: ws') (hrm : rm.cells = mc ∧ rm.slots = ms) (hsl : (lg_sl As).length ≤ maxL) (hlv : lv_args 0 As = lv)
    (body : ∀ (p : Program) (e : Env) (s : State) (m : MethodId) (below : List Frame) (meth : Method) (c : Code) (A : Nat → Prop) (QQ : State → Prop), p.tables.exec = Jvm.exec → c.code = cc → c.maxLocals = maxL → s.vm.findClass own = some m.cls → (∀ w ∈ ws, w.before As.toArray s = true) → va_P D vwCl W0 s.heap → va_K D vwCl tys s → nw_K s → va_D A W0 → (∀ q, s.heap.size ≤ q → A q) →
      (∀ (H : Heap) (locs : List Loc) (pc : Nat) (ls : Array Slot), va_P D vwCl W1 H → va_D A W1 → va_S A s.heap H locs → decode cc pc = .ok (.lreturn, 1) → W p l e rm s m As.toArray below meth c H locs mc ms QQ (F0 m pc ls [.long r])) →
      ∀ ls : Array Slot, lv_has ls maxL lv → W p l e rm s m As.toArray below meth c s.heap [] 0 0 QQ (F0 m 0 ls [])) :
    Met l y ws rm (va_Pc As (wlP D tys W0 sz)) (va_Ql (fun (v : Int64) (_ : Unit) => v = r) (wlQ D (va_A W0 sz) W1) (va_A W0 sz)) mc ms (va_A W0 sz) := by
  refine Met.ofW (cc := cc) (maxL := maxL) (ret := (some .long)) hy hw ?_
  intro p e s m args below meth c s₁ B hml hv
  obtain ⟨rfl, hsz, hP, hK, hD0, hN⟩ := hv
  have hx := B.exec
  have hb := B.bytes
  have hr := B.returns
  have hts := atoms_spec (ws := ws) B.pre
  have hown : s.vm.findClass own = some m.cls := by rw [← ho]; exact findClass_of_methodNamed B.named
  have hlocks := B.notSynchronized
  subst hsz
  have hD := hD0.self (sz := s.heap.size)
  generalize hAe : va_A W0 s.heap.size = A at hD ⊢
  have hA : ∀ q : Nat, s.heap.size ≤ q → A q := fun q h => by rw [← hAe]; exact Or.inr h
  have hl := lv_entry As (n := maxL) hsl
  rw [lg_entry_eq]
  rw [hlv] at hl
  exact body p e s m below meth c A _ hx hb hml hown hts hP hK hN hD hA (fun H locs pc ls hP1 hD1 hS1 hdg => W.lret (v := r) hx hb hr (fun t ht hW => ⟨⟨r, (), rfl, rfl, ⟨by rw [ht]; exact hP1, hD1⟩⟩, hS1.F ht⟩) hS1.2.2 hdg) _ hl

end WXO
