/-! p47, THE CLAIM: whole_start out of c_start (the machine) and law_s (the mathematics). Printed by wip/gen/whole47.py. Own text, but the statement of whole_start. -/
def six6 {α : Type} (x0 x1 x2 x3 x4 x5 : α) : Nat → α
  | 0 => x0
  | 1 => x1
  | 2 => x2
  | 3 => x3
  | 4 => x4
  | _ + 5 => x5
theorem apart_s {A : Nat → Prop} {ws : va_W} (h : va_D A ws) (a : Nat → Nat) (n o d : Nat) (hd : 0 < d) (hp : ∀ j, j < n → ∃ p, ws[o + d * j]? = some p ∧ p.1 = a j) : ∀ j k, j < n → k < n → a j = a k → j = k := by
  intro j k hj hk e
  obtain ⟨p, h1, e1⟩ := hp j hj
  obtain ⟨q, h2, e2⟩ := hp k hk
  have h3 := h.1 _ _ p q h1 h2 (by rw [e1, e2, e])
  exact Nat.eq_of_mul_eq_mul_left hd (Nat.add_left_cancel h3)
theorem sx_all {Q : Nat → Prop} (h0 : Q 0) (h1 : Q 1) (h2 : Q 2) (h3 : Q 3) (h4 : Q 4) (h5 : Q 5) : ∀ j, j < 6 → Q j
  | 0, _ => h0
  | 1, _ => h1
  | 2, _ => h2
  | 3, _ => h3
  | 4, _ => h4
  | 5, _ => h5
  | j + 6, h => absurd h (by omega)
theorem up_six (x0 x1 x2 x3 x4 x5 : Nat) : ∀ j, j < 6 → va_up (va_up (va_up (va_up (va_up (va_up (fun _ => none) 0 (some x0)) 1 (some x1)) 2 (some x2)) 3 (some x3)) 4 (some x4)) 5 (some x5) j = some (six6 x0 x1 x2 x3 x4 x5 j) :=
  sx_all rfl rfl rfl rfl rfl rfl
theorem HS_zero (x0 x1 x2 x3 x4 x5 : Nat) : HS (six6 x0 x1 x2 x3 x4 x5) (0 : Int32) (va_up (va_up (va_up (va_up (va_up (va_up (fun _ => none) 0 (some x0)) 1 (some x1)) 2 (some x2)) 3 (some x3)) 4 (some x4)) 5 (some x5)) (fun _ _ => (0 : Int32)) (fun _ _ => (0 : Int32)) (fun _ _ => (0 : Int32)) (fun _ _ => (0 : Int32)) :=
  ⟨0, fun _ => 0, 0, by decide, rfl, rfl, fun j => j, fun j hj => ⟨hj, up_six x0 x1 x2 x3 x4 x5 j hj⟩, fun j k _ _ h => h, fun j hj => absurd hj (Nat.not_lt_zero j)⟩
theorem NV_zero : NV (fun _ => (0 : Int32)) := fun k _ => ⟨0, by decide, rfl⟩
set_option maxHeartbeats 4000000 in
set_option maxRecDepth 100000 in
theorem whole_start {p : Program} {e : Env} {s : State} {m : MethodId} {below : List Frame} {meth : Method} {c : Code} (l : Launch) (hflags : l.flags = flags0) {b L : Nat} {xs : Nat → Int32} (hL : L ≤ 260) (C0 : lw_At p s m meth c b L xs) : W p l e room_1 s m #[Value.ref b] below meth c s.heap [] 0 0 (lw_Z below #[Value.ref b] s) (entryFrame m ([Value.ref b] : List Value).toArray 5) := by
  obtain ⟨ef, el, ec, hfR, h1, h2, h3⟩ := init_s (F := 100000) (by decide) (fun _ => (0 : Int32)) (fun _ => (0 : Int32)) (fun _ => (0 : Int64))
  refine c_start l C0 (F := 100000) (out := (ef, el, ec)) hfR ?_
  intro cI cZ cJ cQ q1 u2 hD
  have ha : ∀ j k, j < 6 → k < 6 → six6 (u2 12) (u2 17) (u2 22) (u2 27) (u2 32) (u2 37) j = six6 (u2 12) (u2 17) (u2 22) (u2 27) (u2 32) (u2 37) k → j = k := apart_s hD _ 6 13 5 (by decide) (sx_all ⟨_, rfl, rfl⟩ ⟨_, rfl, rfl⟩ ⟨_, rfl, rfl⟩ ⟨_, rfl, rfl⟩ ⟨_, rfl, rfl⟩ ⟨_, rfl, rfl⟩)
  clear hD C0
  exact law_s (F := 100000) (L := L) (a := six6 (u2 12) (u2 17) (u2 22) (u2 27) (u2 32) (u2 37)) (xs := xs) (ef := ef) (el := el) (ec := ec) (by decide) ha ⟨h1, h2, h3⟩ (Nat.lt_of_le_of_lt hL (by decide)) (n := fun _ _ => (0 : Int32)) (q := fun _ _ => (0 : Int32)) (f := fun _ _ => (0 : Int32)) (l := fun _ _ => (0 : Int32)) (nu := fun _ => (0 : Int32)) (inF := fun _ => (0 : Int32)) (fi := fun _ => (0 : Int32)) (la := fun _ => (0 : Int32)) (D := []) ((0 : Int32)) (fun _ => (0 : Int32)) (fun _ => (0 : Int32)) (fun _ => (0 : Int64)) (fun _ => (0 : Int32)) ((0 : Int64)) ((0 : Int32)) (fun _ => (0 : Int32)) (fun _ => (0 : Int32)) (fun _ => (0 : Int32)) (fun _ => (0 : Int32)) (fun _ => (0 : Int32)) (fun _ => (0 : Int32)) ((0 : Int32)) ((0 : Int32)) (fun _ => (0 : Int32)) ((0 : Int64)) ((0 : Int64)) (fun _ => (0 : Int32)) ((0 : Int32)) (fun _ => (0 : Int64)) (fun _ => (0 : Int64)) ((0 : Int64)) ((0 : Int32)) (fun _ => (0 : Int32)) (fun _ => (0 : Int32)) (fun _ => (0 : Int32)) (fun _ => (0 : Int32)) (fun _ => (0 : Int32)) (HS_zero (u2 12) (u2 17) (u2 22) (u2 27) (u2 32) (u2 37)) (FB_new NV_zero (fun _ _ => rfl) _ _)
