theorem e_here {fu : Nat} {c s : Nat → Int32} {n p : Nat} {m : TM} {v : Int32} (hX : HX c n m) (hp : p ≤ n) (hfu : 2000 ≤ fu) : f_X5_here fu (mm m s p v) = some (if sk c n p < n then c (sk c n p) else -1, mm m s (sk c n p) v) := by
  have hn := hX.1
  have key : ∀ f p : Nat, p ≤ n → n - p < f → lq_1 (lb_X5_here_0 fu) f (mm m s p v) = some (mm m s (sk c n p) v) := by
    intro f
    induction f with
    | zero => intro p h1 h2; omega
    | succ f ih =>
      intro p h1 h2
      show lb_X5_here_0 fu (lq_1 (lb_X5_here_0 fu) f) (mm m s p v) = _
      generalize lq_1 (lb_X5_here_0 fu) f = rc at ih ⊢
      unfold lb_X5_here_0
      simp only [nm_d]
      rw [mm_at, mm_ty, hX.2.1, mm_tx]
      by_cases h : n ≤ p
      · rw [if_pos (n_le' (by omega) (by omega) h), sk_n h]
      · rw [if_neg (n_nle (by omega) (by omega) (by omega)), ix_n (by omega) (by omega), n_cl (by omega), sk_i (by omega)]
        have hb := (HX_b hX (show p < n by omega)).1
        by_cases e1 : c p = 32
        · rw [if_neg (fun x => x (hb.mpr e1)), if_pos e1, n_p1, mm_at_]
          exact ih (p + 1) (by omega) (by omega)
        · rw [if_pos (show ¬ M_tx m p = 32 from fun x => e1 (hb.mp x)), if_neg e1]
  obtain ⟨r1, r2⟩ := sk_r (c := c) hp
  unfold f_X5_here
  rw [show lf_X5_here_0 fu fu (mm m s p v) = _ from key fu p hp (by omega), bd_s]
  simp only [nm_d]
  rw [mm_at, mm_ty, hX.2.1, mm_tx]
  by_cases h : sk c n p < n
  · rw [if_neg (n_nle (by omega) (by omega) h), ix_n (by omega) (by omega), n_cl (by omega), if_pos h, (HX_b hX h).2.2.1]
  · rw [if_pos (n_le' (by omega) (by omega) (by omega)), if_neg h]
