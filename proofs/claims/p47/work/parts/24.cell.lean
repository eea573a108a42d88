/-! The script, as the law's own method 'cell' reads it. Own text. -/
def vcP (a L : Nat) (xs : Nat → Int32) (sz : Nat) (U : State) : Prop := U.heap.size = sz ∧ a < sz ∧ va_X a L xs U U.heap
theorem vc_blind {av : List Value} {a L : Nat} {xs : Nat → Int32} {sz : Nat} : FrameBlind (va_Pc av (vcP a L xs sz)) := fun r U g mk q => by
  obtain ⟨q0, q1, q2, q3⟩ := q
  exact ⟨q0, q1, q2, va_X.moved (u := U) (U := U.calling g mk r) (Vm.Alike.refl U.vm) q3⟩
theorem vc_preS {s : State} {H : Heap} {A : Nat → Prop} {locs : List Loc} {a L : Nat} {xs : Nat → Int32} (hXs : va_X a L xs s s.heap) (hbl : a < s.heap.size) (hbA : ¬ A a) (hS : va_S A s.heap H locs) {As : List Value} : PreS s H (va_Pc As (vcP a L xs H.size)) As :=
  ⟨vc_blind, fun U hU hW => ⟨rfl, by rw [hU], Nat.lt_of_lt_of_le hbl hS.1, by rw [hU]; exact va_X.moved hW.alike (hXs.kept (hS.2.1 a hbl hbA))⟩⟩
theorem va_P_nil {D : va_G} {H : Heap} : va_P D vwCl [] H := fun k q h => by rw [List.getElem?_nil] at h; cases h
theorem va_D_nil {A : Nat → Prop} : va_D A [] := ⟨fun i j p q h => by (rw [List.getElem?_nil] at h; cases h), fun k q h => by rw [List.getElem?_nil] at h; cases h⟩
section VCO
variable {l : Launch} {y : MethodName} {ws ws' : List Cond} {rm : Room} {cc : ByteArray} {maxL : Nat} {D : va_G} {As : List Value} {a L sz : Nat} {xs : Nat → Int32} {lv : List (Nat × Value)}
theorem vc_ofWi {r : Int32} (own : String) (hy : plainName y.cls = true) (ho : y.cls = own) (hw : ws = Cond.code y cc maxL (some .int) :: ws') (hsl : (lg_sl As).length ≤ maxL) (hlv : lv_args 0 As = lv)
    (body : ∀ (p : Program) (e : Env) (s : State) (m : MethodId) (below : List Frame) (meth : Method) (c : Code) (A : Nat → Prop) (QQ : State → Prop), p.tables.exec = Jvm.exec → c.code = cc → c.maxLocals = maxL → s.vm.findClass own = some m.cls → (∀ w ∈ ws, w.before As.toArray s = true) → va_X a L xs s s.heap → a < s.heap.size → ¬ A a →
      (∀ (H : Heap) (locs : List Loc) (pc : Nat) (ls : Array Slot), va_S A s.heap H locs → decode cc pc = .ok (.ireturn, 1) → W p l e rm s m As.toArray below meth c H locs 0 0 QQ (F0 m pc ls [.int r])) →
      ∀ ls : Array Slot, lv_has ls maxL lv → W p l e rm s m As.toArray below meth c s.heap [] 0 0 QQ (F0 m 0 ls [])) :
    Met l y ws rm (va_Pc As (vcP a L xs sz)) (va_Qi (fun (v : Int32) (_ : Unit) => v = r) (wlQ D (va_A [] sz) []) (va_A [] sz)) 0 0 (va_A [] sz) := by
  refine Met.ofW (cc := cc) (maxL := maxL) (ret := (some .int)) hy hw ?_
  intro p e s m args below meth c s₁ B hml hv
  obtain ⟨rfl, hsz, hlt, hXs⟩ := hv
  have hx := B.exec
  have hb := B.bytes
  have hr := B.returns
  have hts := atoms_spec (ws := ws) B.pre
  have hown : s.vm.findClass own = some m.cls := by rw [← ho]; exact findClass_of_methodNamed B.named
  subst hsz
  have hbA : ¬ va_A [] s.heap.size a := fun h => by
    rcases h with ⟨k, e, h⟩ | h
    · rw [List.getElem?_nil] at h; cases h
    · exact absurd hlt (Nat.not_lt.mpr h)
  generalize va_A [] s.heap.size = A at hbA ⊢
  have hl := lv_entry As (n := maxL) hsl
  rw [lg_entry_eq]
  rw [hlv] at hl
  exact body p e s m below meth c A _ hx hb hml hown hts hXs hlt hbA (fun H locs pc ls hS1 hdg => W.iret (v := r) hx hb hr (fun t ht hW => ⟨⟨r, (), rfl, rfl, va_P_nil, va_D_nil⟩, hS1.F ht⟩) hS1.2.2 hdg) _ hl
end VCO
def fPaddockFieldsLaw_cell (L : Nat) (x1 : Int32) (arr_0 : Nat → Int32) : Option (Int32) :=
  if (Int32.ofNat L) ≤ x1 then
    some (((7919 : Int32) * (x1 + (3 : Int32))) * (x1 + (11 : Int32)))
  else
    (o_rd L arr_0 x1).bind fun v1 =>
    some v1
theorem c_fPaddockFieldsLaw_cell (l : Launch) (D : va_G) (a L : Nat) (xs : Nat → Int32) (sz : Nat) {x1 out : Int32} (hf : fPaddockFieldsLaw_cell L x1 xs = some out) : Met l yL_cell wsL_cell ({ frames := 0, cells := 0, slots := 0, locals := 0 } : Room) (va_Pc [.ref a, .int x1] (vcP a L xs sz)) (va_Qi (fun (v : Int32) (_ : Unit) => v = out) (wlQ D (va_A [] sz) []) (va_A [] sz)) 0 0 (va_A [] sz) := by
  refine vc_ofWi (lv := [(0, .ref a), (1, .int x1)]) RL (by decide) rfl rfl (Nat.le_of_ble_eq_true rfl) rfl ?_
  intro p e s m below meth c A QQ hx hb hml hown hts hXs hbl hbA hret ls hl
  have hS : va_S A s.heap s.heap [] := va_S.rf
  unfold fPaddockFieldsLaw_cell at hf
  refine lv_iload_n hx hb dL_cell_0 rfl (lv_at hl 1 rfl) ?_
  refine lv_aload_n hx hb dL_cell_1 rfl (lv_at hl 0 rfl) ?_
  refine va_slen hx hb hXs hbl hbA hS dL_cell_2 ?_
  refine lv_icmp_ge (tgt := 12) hx hb dL_cell_3 (by decide) (fun cc => ?_) (fun cc => ?_)
  · replace hf := hf_pos cc hf
    refine lv_sipush (v := 7919) hx hb dL_cell_12 (by decide) ?_
    refine lv_iload_n hx hb dL_cell_15 rfl (lv_at hl 1 rfl) ?_
    refine lv_iconst (v := 3) hx hb dL_cell_16 (by decide) ?_
    refine lv_iadd hx hb dL_cell_17 ?_
    refine lv_imul hx hb dL_cell_18 ?_
    refine lv_iload_n hx hb dL_cell_19 rfl (lv_at hl 1 rfl) ?_
    refine lv_bipush (v := 11) hx hb dL_cell_20 (by decide) ?_
    refine lv_iadd hx hb dL_cell_22 ?_
    refine lv_imul hx hb dL_cell_23 ?_
    obtain rfl := Option.some.inj hf
    exact hret _ _ _ _ hS dL_cell_24
  · replace hf := hf_neg cc hf
    refine lv_aload_n hx hb dL_cell_6 rfl (lv_at hl 0 rfl) ?_
    refine lv_iload_n hx hb dL_cell_7 rfl (lv_at hl 1 rfl) ?_
    obtain ⟨v1, h_v1, hf⟩ := hf_bind hf
    obtain ⟨hin9, he9⟩ := o_rd_spec h_v1
    refine va_sld hx hb hXs hbl hbA hS hin9 dL_cell_8 ?_
    rw [he9]
    refine lv_goto (tgt := 24) hx hb dL_cell_9 (by decide) ?_
    obtain rfl := Option.some.inj hf
    exact hret _ _ _ _ hS dL_cell_24
