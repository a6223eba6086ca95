theorem e_stretch (fu : Nat) (u : TS) (a b : Int32) : f_X4_isStretch fu u a b = some (hs (S_sl u) a && decide (a.toInt ≤ b.toInt ∧ b.toInt ≤ (S_sl u - 1).toInt)) := by
  unfold f_X4_isStretch
  simp only [e_has, bd_s, jn_e, bf]
  cases h1 : hs (S_sl u) a with
  | false => rw [if_pos rfl]; rfl
  | true =>
    rw [if_neg (by decide)]
    unfold hs at h1
    rw [decide_eq_true_eq] at h1
    cases h2 : hs (S_sl u) b with
    | false =>
      rw [if_pos rfl]
      unfold hs at h2
      rw [decide_eq_false_iff_not] at h2
      rw [decide_eq_false (by omega)]
      rfl
    | true =>
      unfold hs at h2
      rw [decide_eq_true_eq] at h2
      rw [if_neg (by decide)]
      by_cases h3 : b < a
      · rw [if_pos h3, decide_eq_false (by rw [i_lt] at h3; omega)]
        rfl
      · rw [if_neg h3, decide_eq_true (by rw [i_lt] at h3; omega)]
        rfl
/-- a stretch of sleepers -/
theorem str_t {N : Nat} {a b : Int32} (h : hs (nI N) a = true) (h1 : 1 ≤ N) (h2 : N ≤ 1000) (hb : a.toInt ≤ b.toInt ∧ b.toInt ≤ (nI N - 1).toInt) : ∃ i j : Nat, a = nI i ∧ b = nI j ∧ i ≤ j ∧ j < N := by
  obtain ⟨i, rfl, hi⟩ := hs_t h h1 h2
  rw [n_ti (by omega), n_m1 h1, n_ti (by omega)] at hb
  obtain ⟨j, e, e2, -⟩ := i_of (x := b) (by omega)
  exact ⟨i, j, rfl, e, by omega, by omega⟩
def sgm (f : Nat → Int32) (i : Nat) : Nat → Int32
  | 0 => 0
  | k + 1 => sgm f i k + f (i + k)
theorem sgm_cong {f g : Nat → Int32} {i i' : Nat} (d : Nat) (h : ∀ k, k < d → f (i + k) = g (i' + k)) : sgm f i d = sgm g i' d := by
  induction d with
  | zero => rfl
  | succ d ih =>
    show sgm f i d + f (i + d) = sgm g i' d + g (i' + d)
    rw [ih (fun k hk => h k (by omega)), h d (by omega)]
theorem TR_fo2 {u : TS} {s : Nat → Int32} {i : Nat} (h : TR u s) (d : Nat) (hd : i + d ≤ 60) : TR (S_fo_ u (fl (fun _ => 0) (S_fo u) i d)) (fl (fun _ => 0) s (101 + i) d) := by
  induction d with
  | zero =>
    rw [fl_0, fl_0]
    exact h
  | succ d ih =>
    have h1 := TR_fo (i := i + d) (x := 0) (ih (by omega)) (by omega)
    rw [← Nat.add_assoc] at h1
    rw [← fl_s (fun _ => 0) (S_fo u) i d, ← fl_s (fun _ => 0) s (101 + i) d]
    exact h1
theorem TI_fo2 {u : TS} {i d : Nat} (h : TI u) : TI (S_fo_ u (fl (fun _ => 0) (S_fo u) i d)) := by
  obtain ⟨h0, h1, h2, h3, h4, h5⟩ := h
  refine ⟨h0, h1, h2, fun k hk => ?_, h4, h5⟩
  show rg (fl (fun _ => 0) (S_fo u) i d k) 0 100
  unfold fl
  by_cases e : i ≤ k ∧ k < i + d
  · rw [if_pos e]
    simp [rg]
  · rw [if_neg e]
    exact h3 k hk
theorem op_renew {fu : Nat} (hfu : 2000 ≤ fu) : OP_renew RR fu := by
  intro C m p q h
  obtain ⟨hT, hI, hH, hIm, hX⟩ := id h
  unfold f_X4_renew f_X5_renew
  simp only [e_stretch, e_isSleeper, e_in, bd_s, bf, Bool.not_eq_false, nm_d]
  rw [← hT.sl]
  cases h1 : hs (S_sl (C_now C)) p with
  | false =>
    rw [if_neg (by simp), if_pos rfl]
    exact ⟨_, _, rfl, rfl, rfl, h.1, h.2.1, h.2.2.1, h.2.2.2.1, h.2.2.2.2⟩
  | true =>
    rw [if_neg (c := true = false) (by decide), Bool.true_and]
    by_cases hb : p.toInt ≤ q.toInt ∧ q.toInt ≤ (S_sl (C_now C) - 1).toInt
    · rw [decide_eq_true hb]; simp only [it_tt, it_ff, it_tf, it_ft, if_true, if_false]
      obtain ⟨N, -, -, -, eN, hN1, hN2, -⟩ := hI.nat
      rw [eN] at h1 hb
      obtain ⟨i, j, rfl, rfl, hij, hj⟩ := str_t h1 (by omega) (by omega) hb
      obtain ⟨h', q0, q1, q2, q3, q4, q5, pa', ps', s1, s2, hH'⟩ := r_save hfu hH hT hI
      have l1 := cp_loop3 (F := lb_X4_renew_28 fu (nI j)) (j + 1 - i) (fun k => sgm (S_fo (C_now C)) i k) (fun k => nI (i + k)) (fun k => S_fo_ (C_now C) (fl (fun _ => 0) (S_fo (C_now C)) i k)) (sgm (S_fo (C_now C)) i (j + 1 - i), S_fo_ (C_now C) (fl (fun _ => 0) (S_fo (C_now C)) i (j + 1 - i))) (fun rec => by
        unfold lb_X4_renew_28
        exact if_pos ((n_lt (by omega) (by omega)).mpr (by omega))) (fun rec k hk => by
        unfold lb_X4_renew_28
        rw [if_neg (fun e => by have := (n_lt (by omega) (by omega)).mp e; omega)]
        simp only [nm_d]
        rw [ix_n (by omega) (by omega), ix_n (by omega) (by omega), n_cl (by omega), n_p1, show S_fo (S_fo_ (C_now C) (fl (fun _ => 0) (S_fo (C_now C)) i k)) = fl (fun _ => 0) (S_fo (C_now C)) i k from rfl, fl_out (by omega), ← fl_s (fun _ => 0) (S_fo (C_now C)) i k]
        rfl) fu 0 (by omega) (by omega)
      have l2 := cp_loop3 (F := lb_X5_renew_36 fu (nI j)) (j + 1 - i) (fun k => sgm (M_ss m) (101 + i) k) (fun k => nI (i + k)) (fun k => M_ss_ (M_ps_ (M_pa_ m pa') ps') (fl (fun _ => 0) (M_ss m) (101 + i) k)) (sgm (M_ss m) (101 + i) (j + 1 - i), M_ss_ (M_ps_ (M_pa_ m pa') ps') (fl (fun _ => 0) (M_ss m) (101 + i) (j + 1 - i))) (fun rec => by
        unfold lb_X5_renew_36
        exact if_pos ((n_lt (by omega) (by omega)).mpr (by omega))) (fun rec k hk => by
        unfold lb_X5_renew_36
        rw [if_neg (fun e => by have := (n_lt (by omega) (by omega)).mp e; omega)]
        simp only [nm_d]
        rw [n_101, ix_n (by omega) (by omega), ix_n (by omega) (by omega), n_cl (by omega), n_p1, show M_ss (M_ss_ (M_ps_ (M_pa_ m pa') ps') (fl (fun _ => 0) (M_ss m) (101 + i) k)) = fl (fun _ => 0) (M_ss m) (101 + i) k from rfl, fl_out (by omega), ← Nat.add_assoc, ← fl_s (fun _ => 0) (M_ss m) (101 + i) k]
        rfl) fu 0 (by omega) (by omega)
      rw [fl_0] at l1 l2
      rw [s1, bd_s, show lf_X4_renew_28 fu (nI j) fu (0 : Int32) (nI i) (C_now C) = _ from l1, bd_s, s2, bd_s, show lf_X5_renew_36 fu (nI j) fu (0 : Int32) (nI i) (M_ps_ (M_pa_ m pa') ps') = _ from l2, bd_s]
      refine ⟨_, _, rfl, rfl, ?_, TR_fo2 hT _ (by omega), TI_fo2 hI, hH', hIm, hX⟩
      exact sgm_cong _ (fun k hk => by rw [Nat.add_assoc]; exact hT.fo (by omega))
    · rw [decide_eq_false hb]; simp only [it_tt, it_ff, it_tf, it_ft, if_true, if_false]
      exact ⟨_, _, rfl, rfl, rfl, h.1, h.2.1, h.2.2.1, h.2.2.2.1, h.2.2.2.2⟩
