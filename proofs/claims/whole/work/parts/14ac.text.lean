def tb (c : Nat → Int32) (n p : Nat) (w : Int32) : Bool := decide (sk c n p < n ∧ c (sk c n p) = w)
def tp (c : Nat → Int32) (n p : Nat) (w : Int32) : Nat := if tb c n p w = true then sk c n p + 1 else sk c n p
theorem tp_r {c : Nat → Int32} {n p : Nat} {w : Int32} (h : p ≤ n) : p ≤ tp c n p w ∧ tp c n p w ≤ n := by
  obtain ⟨r1, r2⟩ := sk_r (c := c) h
  unfold tp
  by_cases e : tb c n p w = true
  · have e2 := e
    unfold tb at e2
    rw [decide_eq_true_eq] at e2
    rw [if_pos e]
    omega
  · rw [if_neg e]
    omega
theorem e_takesC {fu : Nat} {c : Nat → Int32} {n p : Nat} {e w : Int32} (hn : n ≤ 100) (hp : p ≤ n) (hfu : 2000 ≤ fu) : f_X3_takes fu (tx c n e p) w = some (tb c n p w, tx c n e (tp c n p w)) := by
  obtain ⟨r1, r2⟩ := sk_r (c := c) hp
  unfold f_X3_takes
  rw [e_skip hn hp hfu, bd_s]
  simp only [nm_d]
  rw [show X_po (tx c n e (sk c n p)) = nI (sk c n p) from rfl, show X_ln (tx c n e (sk c n p)) = nI n from rfl, show X_ch (tx c n e (sk c n p)) = c from rfl]
  unfold tp
  by_cases h : sk c n p < n
  · rw [if_neg (n_nle (by omega) (by omega) h), ix_n (by omega) (by omega), n_cl (by omega)]
    by_cases e1 : c (sk c n p) = w
    · have t : tb c n p w = true := decide_eq_true ⟨h, e1⟩
      rw [if_pos e1, t, if_pos rfl, n_p1]
      rfl
    · have t : tb c n p w = false := decide_eq_false (fun x => e1 x.2)
      rw [if_neg e1, t, if_neg (by decide)]
  · have t : tb c n p w = false := decide_eq_false (fun x => h x.1)
    rw [if_pos (n_le' (by omega) (by omega) (by omega)), t, if_neg (by decide)]
