theorem zb_0 {α : Type} (k : Bool → Option α) : zb (0 : Int32) k = k false := rfl
theorem zb_1 {α : Type} (k : Bool → Option α) : zb (1 : Int32) k = k true := rfl
theorem e_takesM {fu : Nat} {c s : Nat → Int32} {n p : Nat} {m : TM} {v w : Int32} (hX : HX c n m) (hp : p ≤ n) (hw : ¬ (-1 : Int32) = w) (hfu : 2000 ≤ fu) : f_X5_takes fu (mm m s p v) w = some (tb c n p w, mm m s (tp c n p w) v) := by
  unfold f_X5_takes
  rw [e_here hX hp hfu, bd_s, jn_e]
  dsimp only
  unfold tp
  by_cases h : sk c n p < n ∧ c (sk c n p) = w
  · have t : tb c n p w = true := decide_eq_true h
    rw [t, if_pos rfl, if_pos h.1, if_neg (fun x => x h.2), nm_d, if_neg (show ¬ (1 : Int32) = 0 by decide), nm_d, nm_d, zb_1, mm_at, n_p1, mm_at_]
  · have t : tb c n p w = false := decide_eq_false h
    have ne : ¬ (if sk c n p < n then c (sk c n p) else (-1 : Int32)) = w := by
      by_cases h1 : sk c n p < n
      · rw [if_pos h1]
        exact fun x => h ⟨h1, x⟩
      · rw [if_neg h1]
        exact hw
    rw [t, if_neg (show ¬ false = true by decide), if_pos ne, nm_d, if_pos (show (0 : Int32) = 0 from rfl), nm_d, nm_d, zb_0, mm_at, n_p0, mm_at_]
