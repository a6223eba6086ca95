/-- blocks that differ in the last one alone -/
theorem pick_last (Bp : List va_W) (x y : va_W) (is : List Nat) (h : is.all (fun i => Nat.blt i Bp.length) = true) : pick (Bp ++ [x]) is = pick (Bp ++ [y]) is := by
  unfold pick
  induction is with
  | nil => rfl
  | cons i is ih =>
    rw [List.all_cons, Bool.and_eq_true] at h
    have hi : i < Bp.length := Nat.le_of_ble_eq_true h.1
    have e : ∀ z : va_W, (Bp ++ [z])[i]? = Bp[i]? := fun z => List.getElem?_append_left hi
    rw [List.filterMap_cons, List.filterMap_cons, e x, e y, ih h.2]
