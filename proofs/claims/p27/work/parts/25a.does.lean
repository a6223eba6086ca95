/-! a call of the law's choice -/
theorem v_low (x : Int32) {n : Int32} (N : Nat) (hn : n = nI N) (h1 : 1 ≤ N) (h2 : N ≤ 1000) : ∃ k : Nat, k < N ∧ ∀ fu : Nat, f_L_low fu x n = some (nI k) := by
  subst hn
  obtain ⟨m, hm, em⟩ := pk_andE x (m := 2147483647) 31 (by decide +kernel)
  refine ⟨m % N, Nat.mod_lt _ (by omega), fun fu => ?_⟩
  unfold f_L_low
  rw [em]
  dsimp only [nm_d]
  rw [rq_t (decide_eq_true (show ¬ nI N = 0 from fun e => by have := (n_eq (b := 0) (by omega) (by omega)).mp e; omega)), pk_rem hm (by omega) (by omega)]
set_option maxHeartbeats 2000000 in
theorem d_does {fu T z : Nat} {hi : TH} {sw : TV} {tx : TX} {kp : Nat → Int32} {i0 i1 r0 r1 r2 r3 r4 r5 now : TS} {v : Int32} (hT : T ≤ 10000) (hfu : 2000 ≤ fu) (hG : GOOD T now) (hH : HI T hi (RW r0 r1 r2 r3 r4 r5) z) (hK : KI T kp i0 i1) :
    ∃ o, f_L_does fu now sw hi r0 r1 r2 r3 r4 r5 tx kp i0 i1 v = some o ∧ ST T z now (hi, r0, r1, r2, r3, r4, r5) o.1 o.2.1 o.2.2.2 := by
  obtain ⟨N, K, A, g, hv⟩ := GV_ex hG.1
  obtain ⟨k0, k1, -, -, -, -, hm⟩ := hK.mask hfu
  obtain ⟨w, e0⟩ := v_c0 (fu := fu) (v := sw) (hi := hi) (tx := tx) hG.1 hv hm hfu
  obtain ⟨eN, hN1, hN2, -⟩ := id hv
  rw [eN] at e0
  unfold f_L_does
  rw [e0, bd_s]
  try dsimp only
  obtain ⟨j, hjN, ej⟩ := v_low (v >>> ((4 : Int32) &&& 31)) (n := nI N) N rfl (by omega) (by omega)
  rw [nm_d, ej, bd_s, nm_d]
  by_cases c0 : v &&& (15 : Int32) = (0 : Int32)
  · rw [if_pos c0]
    repeat rw [nm_d]
    by_cases d : v >>> ((4 : Int32) &&& 31) &&& (3 : Int32) = 0
    · obtain ⟨k1, -, e1⟩ := v_low (v >>> ((6 : Int32) &&& 31)) (n := (51 : Int32)) 51 rfl (by omega) (by omega)
      rw [if_neg (show ¬ ¬ v >>> ((4 : Int32) &&& 31) &&& (3 : Int32) = 0 from fun e => e d), e1, bd_s]
      repeat rw [nm_d]
      obtain ⟨o, eo, hS⟩ := d_begin (n := (10 : Int32) + nI k1) hfu hG hH
      rw [eo, bd_s]
      repeat rw [nm_d]
      exact ⟨_, rfl, hS⟩
    · obtain ⟨k1, -, e1⟩ := v_low (v >>> ((10 : Int32) &&& 31)) (n := (3 : Int32)) 3 rfl (by omega) (by omega)
      rw [if_pos d, e1, bd_s]
      repeat rw [nm_d]
      obtain ⟨o, eo, hS⟩ := d_renew (p := nI j) (q := nI j + nI k1) hfu hG hH
      rw [eo, bd_s]
      repeat rw [nm_d]
      exact ⟨_, rfl, hS⟩
  rw [if_neg c0]
  by_cases c1 : v &&& (15 : Int32) = (1 : Int32)
  · rw [if_pos c1]
    repeat rw [nm_d]
    obtain ⟨k1, -, e1⟩ := v_low (v >>> ((4 : Int32) &&& 31)) (n := (8 : Int32)) 8 rfl (by omega) (by omega)
    rw [e1, bd_s]
    repeat rw [nm_d]
    obtain ⟨k2, -, e2⟩ := v_low (v >>> ((7 : Int32) &&& 31)) (n := (100 : Int32)) 100 rfl (by omega) (by omega)
    rw [e2, bd_s]
    repeat rw [nm_d]
    obtain ⟨o, eo, hS⟩ := d_setNumber (fu := fu) (p := nI k1) (v := (1 : Int32) + nI k2) hG hH
    rw [eo, bd_s]
    repeat rw [nm_d]
    exact ⟨_, rfl, hS⟩
  rw [if_neg c1]
  by_cases c2 : v &&& (15 : Int32) = (2 : Int32)
  · rw [if_pos c2]
    repeat rw [nm_d]
    obtain ⟨k1, -, e1⟩ := v_low (v >>> ((10 : Int32) &&& 31)) (n := (200 : Int32)) 200 rfl (by omega) (by omega)
    rw [e1, bd_s]
    repeat rw [nm_d]
    obtain ⟨o, eo, hS⟩ := d_setLevel (fu := fu) (p := nI j) (v := nI k1 - (100 : Int32)) hG hH
    rw [eo, bd_s]
    repeat rw [nm_d]
    exact ⟨_, rfl, hS⟩
  rw [if_neg c2]
  by_cases c3 : v &&& (15 : Int32) = (3 : Int32)
  · rw [if_pos c3]
    repeat rw [nm_d]
    obtain ⟨k1, -, e1⟩ := v_low (v >>> ((10 : Int32) &&& 31)) (n := (200 : Int32)) 200 rfl (by omega) (by omega)
    rw [e1, bd_s]
    repeat rw [nm_d]
    obtain ⟨o, eo, hS⟩ := d_setLevel (fu := fu) (p := nI j) (v := nI k1 - (100 : Int32)) hG hH
    rw [eo, bd_s]
    repeat rw [nm_d]
    exact ⟨_, rfl, hS⟩
  rw [if_neg c3]
  by_cases c4 : v &&& (15 : Int32) = (4 : Int32)
  · rw [if_pos c4]
    repeat rw [nm_d]
    obtain ⟨k1, -, e1⟩ := v_low (v >>> ((10 : Int32) &&& 31)) (n := (200 : Int32)) 200 rfl (by omega) (by omega)
    rw [e1, bd_s]
    repeat rw [nm_d]
    obtain ⟨o, eo, hS⟩ := d_setLevel (fu := fu) (p := nI j) (v := nI k1 - (100 : Int32)) hG hH
    rw [eo, bd_s]
    repeat rw [nm_d]
    exact ⟨_, rfl, hS⟩
  rw [if_neg c4]
  by_cases c5 : v &&& (15 : Int32) = (5 : Int32)
  · rw [if_pos c5]
    repeat rw [nm_d]
    obtain ⟨k1, -, e1⟩ := v_low (v >>> ((10 : Int32) &&& 31)) (n := (200 : Int32)) 200 rfl (by omega) (by omega)
    rw [e1, bd_s]
    repeat rw [nm_d]
    obtain ⟨o, eo, hS⟩ := d_setLevel (fu := fu) (p := nI j) (v := nI k1 - (100 : Int32)) hG hH
    rw [eo, bd_s]
    repeat rw [nm_d]
    exact ⟨_, rfl, hS⟩
  rw [if_neg c5]
  by_cases c6 : v &&& (15 : Int32) = (6 : Int32)
  · rw [if_pos c6]
    repeat rw [nm_d]
    obtain ⟨k1, -, e1⟩ := v_low (v >>> ((10 : Int32) &&& 31)) (n := nI (N - j)) (N - j) rfl (by omega) (by omega)
    rw [show nI N - nI j = nI (N - j) from pk_sub (by omega), e1, bd_s]
    repeat rw [nm_d]
    obtain ⟨k2, -, e2⟩ := v_low (v >>> ((16 : Int32) &&& 31)) (n := (400 : Int32)) 400 rfl (by omega) (by omega)
    rw [e2, bd_s]
    repeat rw [nm_d]
    obtain ⟨o, eo, hS⟩ := d_addJob (fu := fu) (p := nI j) (q := nI j + nI k1) (t := nI k2 - (100 : Int32)) hG hH
    rw [eo, bd_s]
    repeat rw [nm_d]
    exact ⟨_, rfl, hS⟩
  rw [if_neg c6]
  by_cases c7 : v &&& (15 : Int32) = (7 : Int32)
  · rw [if_pos c7]
    repeat rw [nm_d]
    obtain ⟨k1, -, e1⟩ := v_low (v >>> ((10 : Int32) &&& 31)) (n := nI (N - j)) (N - j) rfl (by omega) (by omega)
    rw [show nI N - nI j = nI (N - j) from pk_sub (by omega), e1, bd_s]
    repeat rw [nm_d]
    obtain ⟨k2, -, e2⟩ := v_low (v >>> ((16 : Int32) &&& 31)) (n := (400 : Int32)) 400 rfl (by omega) (by omega)
    rw [e2, bd_s]
    repeat rw [nm_d]
    obtain ⟨o, eo, hS⟩ := d_addJob (fu := fu) (p := nI j) (q := nI j + nI k1) (t := nI k2 - (100 : Int32)) hG hH
    rw [eo, bd_s]
    repeat rw [nm_d]
    exact ⟨_, rfl, hS⟩
  rw [if_neg c7]
  by_cases c8 : v &&& (15 : Int32) = (8 : Int32)
  · rw [if_pos c8]
    repeat rw [nm_d]
    obtain ⟨o, eo, hS⟩ := d_cancel (p := nI j) hfu hG hH
    rw [eo, bd_s]
    repeat rw [nm_d]
    exact ⟨_, rfl, hS⟩
  rw [if_neg c8]
  by_cases c9 : v &&& (15 : Int32) = (9 : Int32)
  · rw [if_pos c9]
    repeat rw [nm_d]
    obtain ⟨k1, -, e1⟩ := v_low (v >>> ((4 : Int32) &&& 31)) (n := (200 : Int32)) 200 rfl (by omega) (by omega)
    rw [e1, bd_s]
    repeat rw [nm_d]
    obtain ⟨o, eo, hS⟩ := d_work (p := (1 : Int32) + nI k1) hfu hG hH
    rw [eo, bd_s]
    repeat rw [nm_d]
    exact ⟨_, rfl, hS⟩
  rw [if_neg c9]
  by_cases c10 : v &&& (15 : Int32) = (10 : Int32)
  · rw [if_pos c10]
    repeat rw [nm_d]
    obtain ⟨k1, -, e1⟩ := v_low (v >>> ((4 : Int32) &&& 31)) (n := (200 : Int32)) 200 rfl (by omega) (by omega)
    rw [e1, bd_s]
    repeat rw [nm_d]
    obtain ⟨o, eo, hS⟩ := d_work (p := (1 : Int32) + nI k1) hfu hG hH
    rw [eo, bd_s]
    repeat rw [nm_d]
    exact ⟨_, rfl, hS⟩
  rw [if_neg c10]
  by_cases c11 : v &&& (15 : Int32) = (11 : Int32)
  · rw [if_pos c11]
    repeat rw [nm_d]
    obtain ⟨o, eo, hS⟩ := d_back (fu := fu) (p := v >>> ((4 : Int32) &&& 31) &&& (1 : Int32)) hG hH hK
    rw [eo, bd_s]
    repeat rw [nm_d]
    exact ⟨_, rfl, hS⟩
  rw [if_neg c11]
  repeat rw [nm_d]
  obtain ⟨k1, -, e1⟩ := v_low (v >>> ((4 : Int32) &&& 31)) (n := (200 : Int32)) 200 rfl (by omega) (by omega)
  rw [e1, bd_s]
  repeat rw [nm_d]
  obtain ⟨k2, -, e2⟩ := v_low (v >>> ((12 : Int32) &&& 31)) (n := (30 : Int32)) 30 rfl (by omega) (by omega)
  rw [e2, bd_s]
  repeat rw [nm_d]
  obtain ⟨k3, -, e3⟩ := v_low (v >>> ((17 : Int32) &&& 31)) (n := (5 : Int32)) 5 rfl (by omega) (by omega)
  rw [e3, bd_s]
  repeat rw [nm_d]
  obtain ⟨o, eo, hS⟩ := d_trains (sv := w) (p := (1 : Int32) + nI k1) (q := (1 : Int32) + nI k2) (c := (1 : Int32) + nI k3) hT hfu hG hH
  rw [eo, bd_s]
  repeat rw [nm_d]
  exact ⟨_, rfl, hS⟩
