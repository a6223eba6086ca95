theorem e_swap {fu : Nat} (w : TM) (hfu : 2000 ≤ fu) : lf_X5_load_37 fu fu (0 : Int32) w = some (M_as_ (M_ss_ w (fl (M_as w) (M_ss w) 0 281)) (fl (M_ss w) (M_as w) 0 281)) := by
  have h := cp_loop (F := lb_X5_load_37 fu) 281 (fun k => M_as_ (M_ss_ w (fl (M_as w) (M_ss w) 0 k)) (fl (M_ss w) (M_as w) 0 k)) (fun rec => by
    unfold lb_X5_load_37
    exact if_pos (n_le' (a := 281) (by omega) (by omega) (Nat.le_refl 281))) (fun rec k hk => by
    unfold lb_X5_load_37
    rw [if_neg (show ¬ (281 : Int32) ≤ nI k from n_nle (a := 281) (by omega) (by omega) hk)]
    simp only [nm_d]
    rw [ix_n hk (by omega), ix_n hk (by omega), ix_n hk (by omega), ix_n hk (by omega), n_p1, n_cl (by omega)]
    rw [show M_ss (M_as_ (M_ss_ w (fl (M_as w) (M_ss w) 0 k)) (fl (M_ss w) (M_as w) 0 k)) k = M_ss w k from fl_out (by omega), show M_as (M_as_ (M_ss_ w (fl (M_as w) (M_ss w) 0 k)) (fl (M_ss w) (M_as w) 0 k)) k = M_as w k from fl_out (by omega)]
    rw [← fl_s0 (M_as w) (M_ss w) k, ← fl_s0 (M_ss w) (M_as w) k]
    rfl) fu 0 (by omega) (by omega)
  rw [fl_0, fl_0] at h
  exact h
