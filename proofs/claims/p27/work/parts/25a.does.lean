/-! a call of the law's choice -/
def lw_x (x : Int32) (N : Nat) : Nat := x.toBitVec.toNat % 2 ^ 31 % N
theorem v_low {fu : Nat} (x : Int32) {n : Int32} (N : Nat) (hn : n = nI N) (h1 : 1 ≤ N) (h2 : N ≤ 1000) : f_L_low fu x n = some (nI (lw_x x N)) := by
  subst hn
  unfold f_L_low lw_x
  rw [pk_and x (m := 2147483647) 31 (by decide +kernel)]
  dsimp only [nm_d]
  have h3 : x.toBitVec.toNat % 2 ^ 31 < 2 ^ 31 := Nat.mod_lt _ (by omega)
  rw [rq_t (decide_eq_true (show ¬ nI N = 0 from fun e => by have := (n_eq (b := 0) (by omega) (by omega)).mp e; omega)), pk_rem h3 (by omega) (by omega)]
theorem lw_lt {x : Int32} {N : Nat} (h : 1 ≤ N) : lw_x x N < N := Nat.mod_lt _ (by omega)
theorem v_low3 {fu : Nat} (x : Int32) : f_L_low fu x (3 : Int32) = some (nI (lw_x x 3)) := v_low x 3 rfl (by omega) (by omega)
theorem v_low5 {fu : Nat} (x : Int32) : f_L_low fu x (5 : Int32) = some (nI (lw_x x 5)) := v_low x 5 rfl (by omega) (by omega)
theorem v_low8 {fu : Nat} (x : Int32) : f_L_low fu x (8 : Int32) = some (nI (lw_x x 8)) := v_low x 8 rfl (by omega) (by omega)
theorem v_low30 {fu : Nat} (x : Int32) : f_L_low fu x (30 : Int32) = some (nI (lw_x x 30)) := v_low x 30 rfl (by omega) (by omega)
theorem v_low51 {fu : Nat} (x : Int32) : f_L_low fu x (51 : Int32) = some (nI (lw_x x 51)) := v_low x 51 rfl (by omega) (by omega)
theorem v_low100 {fu : Nat} (x : Int32) : f_L_low fu x (100 : Int32) = some (nI (lw_x x 100)) := v_low x 100 rfl (by omega) (by omega)
theorem v_low200 {fu : Nat} (x : Int32) : f_L_low fu x (200 : Int32) = some (nI (lw_x x 200)) := v_low x 200 rfl (by omega) (by omega)
theorem v_low400 {fu : Nat} (x : Int32) : f_L_low fu x (400 : Int32) = some (nI (lw_x x 400)) := v_low x 400 rfl (by omega) (by omega)
set_option maxHeartbeats 2000000 in
theorem d_does {fu T z : Nat} {hi : TH} {sw : TV} {tx : TX} {kp : Nat → Int32} {i0 i1 r0 r1 r2 r3 r4 r5 now : TS} {v : Int32} (hT : T ≤ 10000) (hfu : 2000 ≤ fu) (hG : GOOD T now) (hH : HI T hi (RW r0 r1 r2 r3 r4 r5) z) (hK : KI T kp i0 i1) :
    ∃ o, f_L_does fu now sw hi r0 r1 r2 r3 r4 r5 tx kp i0 i1 v = some o ∧ ST T z now (hi, r0, r1, r2, r3, r4, r5) o.1 o.2.1 o.2.2.2 := by
  obtain ⟨N, K, A, g, hv⟩ := GV_ex hG.1
  obtain ⟨k0, k1, -, -, -, -, hm⟩ := hK.mask hfu
  obtain ⟨w, e0⟩ := v_c0 (fu := fu) (v := sw) (hi := hi) (tx := tx) hG.1 hv hm hfu
  obtain ⟨eN, hN1, hN2, -⟩ := id hv
  rw [eN] at e0
  unfold f_L_does
  rw [e0]
  dsimp only [bd_s]
  rw [nm_d, v_low _ N rfl (by omega) (by omega)]
  dsimp only [bd_s]
  rw [nm_d]
  have hj : ∀ x : Int32, lw_x x N < N := fun x => lw_lt (by omega)
  generalize hjj : lw_x (v >>> ((4 : Int32) &&& 31)) N = j
  have hjN : j < N := by
    rw [← hjj]
    exact hj _
  by_cases c0 : v &&& (15 : Int32) = (0 : Int32)
  · rw [if_pos c0]
    dsimp only [nm_d]
    by_cases d : v >>> ((4 : Int32) &&& 31) &&& (3 : Int32) = 0
    · rw [if_neg (show ¬ ¬ v >>> ((4 : Int32) &&& 31) &&& (3 : Int32) = 0 from fun e => e d), v_low51]
      dsimp only [bd_s, nm_d]
      obtain ⟨o, eo, hS⟩ := d_begin (n := (10 : Int32) + nI (lw_x (v >>> ((6 : Int32) &&& 31)) 51)) hfu hG hH
      rw [eo]
      dsimp only [bd_s, nm_d]
      exact ⟨_, rfl, hS⟩
    · rw [if_pos d, v_low3]
      dsimp only [bd_s, nm_d]
      obtain ⟨o, eo, hS⟩ := d_renew (p := nI j) (q := nI j + nI (lw_x (v >>> ((10 : Int32) &&& 31)) 3)) hfu hG hH
      rw [eo]
      dsimp only [bd_s, nm_d]
      exact ⟨_, rfl, hS⟩
  rw [if_neg c0]
  by_cases c1 : v &&& (15 : Int32) = (1 : Int32)
  · rw [if_pos c1]
    dsimp only [nm_d]
    rw [v_low8]
    dsimp only [bd_s, nm_d]
    rw [v_low100]
    dsimp only [bd_s, nm_d]
    obtain ⟨o, eo, hS⟩ := d_setNumber (fu := fu) (p := nI (lw_x (v >>> ((4 : Int32) &&& 31)) 8)) (v := (1 : Int32) + nI (lw_x (v >>> ((7 : Int32) &&& 31)) 100)) hG hH
    rw [eo]
    dsimp only [bd_s, nm_d]
    exact ⟨_, rfl, hS⟩
  rw [if_neg c1]
  by_cases c2 : v &&& (15 : Int32) = (2 : Int32)
  · rw [if_pos c2]
    dsimp only [nm_d]
    rw [v_low200]
    dsimp only [bd_s, nm_d]
    obtain ⟨o, eo, hS⟩ := d_setLevel (fu := fu) (p := nI j) (v := nI (lw_x (v >>> ((10 : Int32) &&& 31)) 200) - (100 : Int32)) hG hH
    rw [eo]
    dsimp only [bd_s, nm_d]
    exact ⟨_, rfl, hS⟩
  rw [if_neg c2]
  by_cases c3 : v &&& (15 : Int32) = (3 : Int32)
  · rw [if_pos c3]
    dsimp only [nm_d]
    rw [v_low200]
    dsimp only [bd_s, nm_d]
    obtain ⟨o, eo, hS⟩ := d_setLevel (fu := fu) (p := nI j) (v := nI (lw_x (v >>> ((10 : Int32) &&& 31)) 200) - (100 : Int32)) hG hH
    rw [eo]
    dsimp only [bd_s, nm_d]
    exact ⟨_, rfl, hS⟩
  rw [if_neg c3]
  by_cases c4 : v &&& (15 : Int32) = (4 : Int32)
  · rw [if_pos c4]
    dsimp only [nm_d]
    rw [v_low200]
    dsimp only [bd_s, nm_d]
    obtain ⟨o, eo, hS⟩ := d_setLevel (fu := fu) (p := nI j) (v := nI (lw_x (v >>> ((10 : Int32) &&& 31)) 200) - (100 : Int32)) hG hH
    rw [eo]
    dsimp only [bd_s, nm_d]
    exact ⟨_, rfl, hS⟩
  rw [if_neg c4]
  by_cases c5 : v &&& (15 : Int32) = (5 : Int32)
  · rw [if_pos c5]
    dsimp only [nm_d]
    rw [v_low200]
    dsimp only [bd_s, nm_d]
    obtain ⟨o, eo, hS⟩ := d_setLevel (fu := fu) (p := nI j) (v := nI (lw_x (v >>> ((10 : Int32) &&& 31)) 200) - (100 : Int32)) hG hH
    rw [eo]
    dsimp only [bd_s, nm_d]
    exact ⟨_, rfl, hS⟩
  rw [if_neg c5]
  by_cases c6 : v &&& (15 : Int32) = (6 : Int32)
  · rw [if_pos c6]
    dsimp only [nm_d]
    rw [show nI N - nI j = nI (N - j) from pk_sub (by omega), v_low _ (N - j) rfl (by omega) (by omega)]
    dsimp only [bd_s, nm_d]
    rw [v_low400]
    dsimp only [bd_s, nm_d]
    obtain ⟨o, eo, hS⟩ := d_addJob (fu := fu) (p := nI j) (q := nI j + nI (lw_x (v >>> ((10 : Int32) &&& 31)) (N - j))) (t := nI (lw_x (v >>> ((16 : Int32) &&& 31)) 400) - (100 : Int32)) hG hH
    rw [eo]
    dsimp only [bd_s, nm_d]
    exact ⟨_, rfl, hS⟩
  rw [if_neg c6]
  by_cases c7 : v &&& (15 : Int32) = (7 : Int32)
  · rw [if_pos c7]
    dsimp only [nm_d]
    rw [show nI N - nI j = nI (N - j) from pk_sub (by omega), v_low _ (N - j) rfl (by omega) (by omega)]
    dsimp only [bd_s, nm_d]
    rw [v_low400]
    dsimp only [bd_s, nm_d]
    obtain ⟨o, eo, hS⟩ := d_addJob (fu := fu) (p := nI j) (q := nI j + nI (lw_x (v >>> ((10 : Int32) &&& 31)) (N - j))) (t := nI (lw_x (v >>> ((16 : Int32) &&& 31)) 400) - (100 : Int32)) hG hH
    rw [eo]
    dsimp only [bd_s, nm_d]
    exact ⟨_, rfl, hS⟩
  rw [if_neg c7]
  by_cases c8 : v &&& (15 : Int32) = (8 : Int32)
  · rw [if_pos c8]
    dsimp only [nm_d]
    obtain ⟨o, eo, hS⟩ := d_cancel (p := nI j) hfu hG hH
    rw [eo]
    dsimp only [bd_s, nm_d]
    exact ⟨_, rfl, hS⟩
  rw [if_neg c8]
  by_cases c9 : v &&& (15 : Int32) = (9 : Int32)
  · rw [if_pos c9]
    dsimp only [nm_d]
    rw [v_low200]
    dsimp only [bd_s, nm_d]
    obtain ⟨o, eo, hS⟩ := d_work (p := (1 : Int32) + nI (lw_x (v >>> ((4 : Int32) &&& 31)) 200)) hfu hG hH
    rw [eo]
    dsimp only [bd_s, nm_d]
    exact ⟨_, rfl, hS⟩
  rw [if_neg c9]
  by_cases c10 : v &&& (15 : Int32) = (10 : Int32)
  · rw [if_pos c10]
    dsimp only [nm_d]
    rw [v_low200]
    dsimp only [bd_s, nm_d]
    obtain ⟨o, eo, hS⟩ := d_work (p := (1 : Int32) + nI (lw_x (v >>> ((4 : Int32) &&& 31)) 200)) hfu hG hH
    rw [eo]
    dsimp only [bd_s, nm_d]
    exact ⟨_, rfl, hS⟩
  rw [if_neg c10]
  by_cases c11 : v &&& (15 : Int32) = (11 : Int32)
  · rw [if_pos c11]
    dsimp only [nm_d]
    obtain ⟨o, eo, hS⟩ := d_back (fu := fu) (p := v >>> ((4 : Int32) &&& 31) &&& (1 : Int32)) hG hH hK
    rw [eo]
    dsimp only [bd_s, nm_d]
    exact ⟨_, rfl, hS⟩
  rw [if_neg c11]
  dsimp only [nm_d]
  rw [v_low200]
  dsimp only [bd_s, nm_d]
  rw [v_low30]
  dsimp only [bd_s, nm_d]
  rw [v_low5]
  dsimp only [bd_s, nm_d]
  obtain ⟨o, eo, hS⟩ := d_trains (sv := w) (p := (1 : Int32) + nI (lw_x (v >>> ((4 : Int32) &&& 31)) 200)) (q := (1 : Int32) + nI (lw_x (v >>> ((12 : Int32) &&& 31)) 30)) (c := (1 : Int32) + nI (lw_x (v >>> ((17 : Int32) &&& 31)) 5)) hT hfu hG hH
  rw [eo]
  dsimp only [bd_s, nm_d]
  exact ⟨_, rfl, hS⟩
