/-! HELPERS for methods that catch. Own text. -/
def wc_K (U : State) : Prop := va_Nc "java/lang/IllegalArgumentException" "java/lang/IndexOutOfBoundsException" U ∧ va_Nc "java/lang/IllegalStateException" "java/lang/IndexOutOfBoundsException" U ∧ va_Nc "java/lang/IllegalStateException" "java/lang/IllegalArgumentException" U
theorem wc_K.moved {u U : State} (h : u.vm.Alike U.vm) (k : wc_K u) : wc_K U := ⟨va_Nc.moved h k.1, va_Nc.moved h k.2.1, va_Nc.moved h k.2.2⟩
def wcP (D : va_G) (tys : List (ClassId × FieldType)) (W : va_W) (sz : Nat) (U : State) : Prop := wxP D tys W sz U ∧ wc_K U
theorem wc_blind {av : List Value} {D : va_G} {tys : List (ClassId × FieldType)} {W : va_W} {sz : Nat} : FrameBlind (va_Pc av (wcP D tys W sz)) := fun a U g mk q => by
  obtain ⟨q0, q1, q2⟩ := q
  have h := wx_blind (av := av) (D := D) (tys := tys) (W := W) (sz := sz) a U g mk ⟨q0, q1⟩
  exact ⟨h.1, h.2, wc_K.moved (u := U) (U := U.calling g mk a) (Vm.Alike.refl U.vm) q2⟩
theorem wc_preS {s : State} {H : Heap} {D : va_G} {tys : List (ClassId × FieldType)} {A : Nat → Prop} {ws wc : va_W} {locs : List Loc} (hK : va_K D vwCl tys s) (hN : nw_K s) (hX : wx_K s) (hU : wx_U A s s.heap) (hC9 : wc_K s) (hP : va_P D vwCl ws H) (hD : va_D A ws) (hS : va_S A s.heap H locs) (hA : ∀ q, s.heap.size ≤ q → A q) (isC : List Nat) (hC : isC.map (fun i => ws[i]?) = wc.map some) (hn : va_nd isC = true) {As : List Value} : PreS s H (va_Pc As (wcP D tys wc H.size)) As :=
  ⟨wc_blind, fun U e hW => ⟨rfl, ⟨⟨by rw [e], by rw [e]; exact hP.sub isC (wl_pick hC), va_K.moved hW.alike hK, (hD.sub isC hn hC).weaken (fun _ _ _ _ => trivial), nw_K.warm hW hN⟩, wx_K.warm hW hX, wx_sub (D := D) hU hD hS hA isC hC e hW⟩, wc_K.moved hW.alike hC9⟩⟩
theorem wc_pn {s : State} {args : Array Value} {own E : String} {pc : Nat} : ∀ z ∈ ([] : List ExceptionTableEntry), covers z pc = false ∨ (z.catchType ≠ 0 ∧ ∃ nm : String, (Cond.classLink own z.catchType nm).before args s = true ∧ va_Nc E nm s) := fun _ h => nomatch h
theorem wc_pc {s : State} {args : Array Value} {own E : String} {pc : Nat} {x : ExceptionTableEntry} {B : List ExceptionTableEntry} {nm : String} (h1 : x.catchType ≠ 0) (h2 : (Cond.classLink own x.catchType nm).before args s = true) (h3 : va_Nc E nm s) (t : ∀ z ∈ B, covers z pc = false ∨ (z.catchType ≠ 0 ∧ ∃ nm : String, (Cond.classLink own z.catchType nm).before args s = true ∧ va_Nc E nm s)) : ∀ z ∈ x :: B, covers z pc = false ∨ (z.catchType ≠ 0 ∧ ∃ nm : String, (Cond.classLink own z.catchType nm).before args s = true ∧ va_Nc E nm s) := fun z hz => (List.mem_cons.mp hz).elim (fun e => by rw [e]; exact Or.inr ⟨h1, nm, h2, h3⟩) (t z)
section WCO
variable {l : Launch} {y : MethodName} {ws ws' : List Cond} {rm : Room} {cc : ByteArray} {maxL : Nat} {hh : List (Nat × Nat × Nat × Nat)} {D : va_G} {tys : List (ClassId × FieldType)} {As : List Value} {W0 W1 : va_W} {sz mc ms : Nat} {lv : List (Nat × Value)}
theorem wc_ofWi {r : Int32} (own : String) (hy : plainName y.cls = true) (ho : y.cls = own) (hw : ws = Cond.codeWith y cc maxL (some .int) hh :: ws') (hrm : rm.cells = mc ∧ rm.slots = ms) (hsl : (lg_sl As).length ≤ maxL) (hlv : lv_args 0 As = lv)
    (body : ∀ (p : Program) (e : Env) (s : State) (m : MethodId) (below : List Frame) (meth : Method) (c : Code) (A : Nat → Prop) (QQ : State → Prop), p.tables.exec = Jvm.exec → c.code = cc → c.maxLocals = maxL → s.vm.findClass own = some m.cls → (∀ w ∈ ws, w.before As.toArray s = true) → va_P D vwCl W0 s.heap → va_K D vwCl tys s → nw_K s → wx_K s → wx_U A s s.heap → wc_K s → va_D A W0 → (∀ q, s.heap.size ≤ q → A q) → c.exceptionTable.toList = tableOf hh →
      (∀ (H : Heap) (locs : List Loc) (cells slots pc : Nat) (ls : Array Slot), cells ≤ mc → slots ≤ ms → va_P D vwCl W1 H → va_D A W1 → va_S A s.heap H locs → decode cc pc = .ok (.ireturn, 1) → W p l e rm s m As.toArray below meth c H locs cells slots QQ (F0 m pc ls [.int r])) →
      ∀ ls : Array Slot, lv_has ls maxL lv → W p l e rm s m As.toArray below meth c s.heap [] 0 0 QQ (F0 m 0 ls [])) :
    Met l y ws rm (va_Pc As (wcP D tys W0 sz)) (va_Qi (fun (v : Int32) (_ : Unit) => v = r) (wlQ D (va_A W0 sz) W1) (va_A W0 sz)) mc ms (va_A W0 sz) := by
  refine MetFree.of_bodyS (code := cc) (maxLocals := maxL) (ret := (some .int)) hy ?_ ?_
  · intro args s m h hn
    obtain ⟨m9, meth, c, hn9, h1, h2, h3, h4, -, h5, h6, -⟩ := Cond.codeWith_spec (atoms_spec (ws := ws) h _ (by rw [hw]; exact List.mem_cons_self))
    cases hn.symm.trans hn9
    exact ⟨meth, c, h1, h2, h3, h4, h5, h6⟩
  · intro p e s m args below meth c s₁ B hml hv _
    have hh0 : s₁.heap = s.heap := by rw [B.state]; rfl
    obtain ⟨rfl, ⟨⟨hsz, hP, hK, hD0, hN⟩, hX, hU0⟩, hC⟩ := hv
    have hx := B.exec
    have hb := B.bytes
    have hr := B.returns
    have hts := atoms_spec (ws := ws) B.pre
    have hown : s.vm.findClass own = some m.cls := by rw [← ho]; exact findClass_of_methodNamed B.named
    have hlocks := B.notSynchronized
    have htab : c.exceptionTable.toList = tableOf hh := vx_table (x := y) B (hts _ (by rw [hw]; exact List.mem_cons_self))
    subst hsz
    have hD := hD0.self (sz := s.heap.size)
    have hA : ∀ q : Nat, s.heap.size ≤ q → va_A W0 s.heap.size q := fun q h => Or.inr h
    have hl := lv_entry As (n := maxL) hsl
    rw [hlv] at hl
    have K : W p l e rm s m As.toArray below meth c s.heap [] 0 0 (MQ below (va_Qi (fun (v : Int32) (_ : Unit) => v = r) (wlQ D (va_A W0 s.heap.size) W1) (va_A W0 s.heap.size)) As.toArray s mc ms (va_A W0 s.heap.size)) (entryFrame m As.toArray maxL) := by
      rw [lg_entry_eq]
      exact body p e s m below meth c _ _ hx hb hml hown hts hP hK hN hX hU0 hC hD hA htab (fun H locs cells slots pc ls hcm hsm hP1 hD1 hS1 hdg => W.widen hcm hsm (W.iret (v := r) hx hb hr (fun t ht hW => ⟨⟨r, (), rfl, rfl, ⟨by rw [ht]; exact hP1, hD1⟩⟩, hS1.F ht⟩) hS1.2.2 hdg)) _ hl
    obtain ⟨t, a1, o, b1, b2, b3⟩ := K s₁ hh0 (Stand.of_body B)
    exact ⟨t, o, a1, b1, b2, b3⟩
end WCO
section WCV
variable {p : Program} {l : Launch} {e : Env} {R : Room} {s : State} {m : MethodId} {args : Array Value} {below : List Frame} {meth : Method} {c : Code} {H : Heap} {locs : List Loc} {cells slots : Nat} {Q : State → Prop}
variable {cc : ByteArray} {pc : Nat} {ls : Array Slot} {rest st0 : List Value} {D : va_G} {A : Nat → Prop} {a : Nat} {ws ws' wc w1 : va_W} {H0 : Heap} {av : Array Value} {mc ms : Nat}
theorem wc_calli {v : Int32} (hr : va_Run p l e R s m args below meth c H locs cells slots mc ms (F0 m pc ls st0) rest (va_Qi (fun (r : Int32) (_ : Unit) => r = v) (wlQ D (va_A wc H.size) w1) (va_A wc H.size) av) (va_A wc H.size)) (hP : va_P D vwCl ws H) (hD : va_D A ws) (hS : va_S A H0 H locs) (hA : ∀ q, H0.size ≤ q → A q) (isC isR pm : List Nat) (hC : isC.map (fun i => ws[i]?) = wc.map some) (hR : isR.map (fun i => ws[i]?) = (isR.filterMap (fun i => ws[i]?)).map some) (hn : (va_nd isR && (isR.all (fun i => !isC.contains i) && va_nd pm)) = true) (hpm : pm.map (fun i => (isR.filterMap (fun i => ws[i]?) ++ w1)[i]?) = ws'.map some)
    (kk : ∀ (H1 : Heap) (locs1 : List Loc), va_P D vwCl ws' H1 → va_D A ws' → va_S A H0 H1 locs1 → W p l e R s m args below meth c H1 locs1 (cells + mc) (slots + ms) Q (F0 m (pc + 3) ls (.int v :: rest))) : W p l e R s m args below meth c H locs cells slots Q (F0 m pc ls st0) := by
  have hF := va_free hD hS hA isC hC
  refine va_calli hr hS (fun q _ h => hF q h) hF (fun r u t H1 locs1 ht hvm hw hB hz1 hk1 hS1 => ?_)
  subst hw
  have hB2 : va_P D vwCl w1 H1 ∧ va_D (va_A wc H.size) w1 := by rw [← ht]; exact hB
  obtain ⟨hP1, hD1⟩ := wh_join hP hD isC isR pm hC hR hn hpm hk1 hF hB2
  exact kk H1 locs1 hP1 hD1 hS1
theorem wc_calll {v : Int64} (hr : va_Run p l e R s m args below meth c H locs cells slots mc ms (F0 m pc ls st0) rest (va_Ql (fun (r : Int64) (_ : Unit) => r = v) (wlQ D (va_A wc H.size) w1) (va_A wc H.size) av) (va_A wc H.size)) (hP : va_P D vwCl ws H) (hD : va_D A ws) (hS : va_S A H0 H locs) (hA : ∀ q, H0.size ≤ q → A q) (isC isR pm : List Nat) (hC : isC.map (fun i => ws[i]?) = wc.map some) (hR : isR.map (fun i => ws[i]?) = (isR.filterMap (fun i => ws[i]?)).map some) (hn : (va_nd isR && (isR.all (fun i => !isC.contains i) && va_nd pm)) = true) (hpm : pm.map (fun i => (isR.filterMap (fun i => ws[i]?) ++ w1)[i]?) = ws'.map some)
    (kk : ∀ (H1 : Heap) (locs1 : List Loc), va_P D vwCl ws' H1 → va_D A ws' → va_S A H0 H1 locs1 → W p l e R s m args below meth c H1 locs1 (cells + mc) (slots + ms) Q (F0 m (pc + 3) ls (.long v :: rest))) : W p l e R s m args below meth c H locs cells slots Q (F0 m pc ls st0) := by
  have hF := va_free hD hS hA isC hC
  refine va_calll hr hS (fun q _ h => hF q h) hF (fun r u t H1 locs1 ht hvm hw hB hz1 hk1 hS1 => ?_)
  subst hw
  have hB2 : va_P D vwCl w1 H1 ∧ va_D (va_A wc H.size) w1 := by rw [← ht]; exact hB
  obtain ⟨hP1, hD1⟩ := wh_join hP hD isC isR pm hC hR hn hpm hk1 hF hB2
  exact kk H1 locs1 hP1 hD1 hS1
end WCV
