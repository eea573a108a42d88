/-! What stands where after a call, looked up without laying the rest anew each time. Own text. -/
theorem hpm_of {α : Type} {ws ws' w1 : List α} {isR pm : List Nat} (hR : isR.map (fun i => ws[i]?) = (isR.filterMap (fun i => ws[i]?)).map some) (h : pm.map (fun i => (isR[i]?).elim (w1[i - isR.length]?) (fun j => ws[j]?)) = ws'.map some) : pm.map (fun i => (isR.filterMap (fun i => ws[i]?) ++ w1)[i]?) = ws'.map some := by
  rw [← h]
  apply List.map_congr_left
  intro i _
  generalize isR.filterMap (fun i => ws[i]?) = wr at hR
  have hl : wr.length = isR.length := by
    have := congrArg List.length hR
    rw [List.length_map, List.length_map] at this
    exact this.symm
  cases hi : isR[i]? with
  | none =>
    have h1 := List.getElem?_eq_none_iff.mp hi
    rw [List.getElem?_append_right (by omega), hl]
    rfl
  | some j =>
    obtain ⟨h1, h2⟩ := List.getElem?_eq_some_iff.mp hi
    rw [List.getElem?_append_left (by omega)]
    have h3 := congrArg (fun l => l[i]?) hR
    simp only [List.getElem?_map, hi, Option.map_some] at h3
    show wr[i]? = ws[j]?
    revert h3
    cases wr[i]? with
    | none => exact fun e => nomatch e
    | some y => exact fun e => (Option.some.inj e).symm
