theorem e_expects {fu : Nat} {c : Nat → Int32} {n p : Nat} {e w : Int32} (hn : n ≤ 100) (hp : p ≤ n) (hfu : 2000 ≤ fu) : f_X3_expects fu (tx c n e p) w = some (tb c n p w, tx c n (if tb c n p w = true then e else nI (tp c n p w)) (tp c n p w)) := by
  unfold f_X3_expects
  rw [e_takesC hn hp hfu, bd_s]
  dsimp only
  cases t : tb c n p w with
  | true =>
    rw [if_neg (show ¬ bI true = 0 by decide), if_pos rfl]
  | false =>
    rw [if_pos (show bI false = 0 from rfl), if_neg (show ¬ false = true by decide), nm_d]
    rfl
