/-! count -/
theorem e_keptMask {fu : Nat} {kp : Nat → Int32} {k0 k1 : Nat} (h0 : k0 ≤ 1) (h1 : k1 ≤ 1) (e0 : kp 0 = nI k0) (e1 : kp 1 = nI k1) (hfu : 2000 ≤ fu) : f_X4_keptMask fu kp = some (nI (k0 + 2 * k1)) := by
  have s0 : ∀ rec : Int32 → Int32 → Option Int32, lb_X4_keptMask_4 fu kp rec 0 0 = rec (nI k0) 1 := by
    intro rec
    unfold lb_X4_keptMask_4
    rw [if_neg (by decide), ix_v (by decide) (by decide)]
    simp only [nm_d, jn_e]
    rw [show (0 : Int32).toNatClampNeg = 0 from rfl, e0]
    rcases (show k0 = 0 ∨ k0 = 1 by omega) with rfl | rfl
    · rw [if_pos (show nI 0 = (0 : Int32) from rfl)]; rfl
    · rw [if_neg (by decide)]; rfl
  have s1 : ∀ rec : Int32 → Int32 → Option Int32, lb_X4_keptMask_4 fu kp rec (nI k0) 1 = rec (nI (k0 + 2 * k1)) 2 := by
    intro rec
    unfold lb_X4_keptMask_4
    rw [if_neg (by decide), ix_v (by decide) (by decide)]
    simp only [nm_d, jn_e]
    rw [show (1 : Int32).toNatClampNeg = 1 from rfl, e1]
    rcases (show (k0 = 0 ∨ k0 = 1) ∧ (k1 = 0 ∨ k1 = 1) by omega) with ⟨rfl | rfl, rfl | rfl⟩
    · rw [if_pos (show nI 0 = (0 : Int32) from rfl)]; rfl
    · rw [if_neg (by decide)]; rfl
    · rw [if_pos (show nI 0 = (0 : Int32) from rfl)]; rfl
    · rw [if_neg (by decide)]; rfl
  have s2 : ∀ (rec : Int32 → Int32 → Option Int32) (x : Int32), lb_X4_keptMask_4 fu kp rec x 2 = some x := by
    intro rec x
    unfold lb_X4_keptMask_4
    rw [if_pos (by decide)]
  have key : ∀ n : Nat, lq_2 (lb_X4_keptMask_4 fu kp) (n + 3) 0 0 = some (nI (k0 + 2 * k1)) := by
    intro n
    show lb_X4_keptMask_4 fu kp (lq_2 (lb_X4_keptMask_4 fu kp) (n + 2)) 0 0 = _
    rw [s0]
    show lb_X4_keptMask_4 fu kp (lq_2 (lb_X4_keptMask_4 fu kp) (n + 1)) _ 1 = _
    rw [s1]
    show lb_X4_keptMask_4 fu kp (lq_2 (lb_X4_keptMask_4 fu kp) n) _ 2 = _
    rw [s2]
  have k2 := key (fu - 3)
  rw [show fu - 3 + 3 = fu by omega] at k2
  unfold f_X4_keptMask
  rw [show lf_X4_keptMask_4 fu kp fu (0 : Int32) (0 : Int32) = _ from k2]
  rfl
theorem op_count {fu : Nat} (hfu : 2000 ≤ fu) : OP_count RR fu := by
  intro C m p h
  obtain ⟨hT, hI, hH, hIm, hX⟩ := id h
  obtain ⟨N, K, Hh, A, eN, hN1, hN2, eK, hK1, hK2, eH, hH1, eA, hA1, hA2⟩ := hI.nat
  obtain ⟨f, e1, hf⟩ := r_look (v := C_sv C) hI eN hN1 hN2 eK hK1 hK2 eA hA1 hA2 hfu
  obtain ⟨g, e2, hg⟩ := r_rail hT hI eN hN1 hN2 eK hK1 hK2 hfu
  have efg := ra_eq hf hg
  obtain ⟨k0, k1, hk0, hk1, q0, q1, ek, -, -⟩ := hIm
  have eX : X_ln (C_tx C) = M_ty m := by
    obtain ⟨n, hn, hx, hm, -⟩ := hX
    exact hx.trans hm.symm
  have eHs : H_sz (C_hi C) = M_ps m := by
    obtain ⟨a, z, -, -, hz, -, hp, -⟩ := hH
    exact hz.trans hp.symm
  have eod : od (C_now C) (wf f N A N).2 = od (C_now C) (wf g N A N).2 := by
    rw [wf_c efg N (Nat.le_refl N)]
  unfold f_X4_count f_X5_count
  rw [e1, e2]
  simp only [bd_s]
  rw [e_hanging (m := M_ra_ m g) (u := C_now C) hT eN hN2 hfu, e_order (m := M_ra_ m g) (u := C_now C) hT hI eN hN1 hN2 eA hA1 hA2 hfu, e_keptMask hk0 hk1 q0 q1 hfu]
  simp only [e_within, e_in, bd_s, bf, Bool.not_eq_false, nm_d, jn_e]
  by_cases hc : (0 : Int32).toInt ≤ p.toInt ∧ p.toInt ≤ (14 : Int32).toInt
  · rw [decide_eq_true hc, if_pos rfl]
    obtain ⟨j, rfl, j2, -⟩ := i_of (x := p) (by simpa using hc.1)
    have hj : j < 15 := by
      have := hc.2
      simp at this
      omega
    clear hc j2
    rcases (show j = 0 ∨ j = 1 ∨ j = 2 ∨ j = 3 ∨ j = 4 ∨ j = 5 ∨ j = 6 ∨ j = 7 ∨ j = 8 ∨ j = 9 ∨ j = 10 ∨ j = 11 ∨ j = 12 ∨ j = 13 ∨ j = 14 by omega) with rfl | rfl | rfl | rfl | rfl | rfl | rfl | rfl | rfl | rfl | rfl | rfl | rfl | rfl | rfl
    · (repeat (first | rw [if_pos (by decide)] | rw [if_neg (by decide)]))
      rw [ix_n (by omega) (by omega), n_cl (by omega)]
      exact ⟨_, _, rfl, rfl, hT.sl, h.1, h.2.1, h.2.2.1, h.2.2.2.1, h.2.2.2.2⟩
    · (repeat (first | rw [if_pos (by decide)] | rw [if_neg (by decide)]))
      rw [n_m1 (by omega), ix_n (by omega) (by omega), ix_n (by omega) (by omega), n_cl (by omega), n_cl (by omega)]
      exact ⟨_, _, rfl, rfl, hT.nu (k := 0) (by omega), h.1, h.2.1, h.2.2.1, h.2.2.2.1, h.2.2.2.2⟩
    · (repeat (first | rw [if_pos (by decide)] | rw [if_neg (by decide)]))
      rw [n_m1 (by omega), ix_n (by omega) (by omega), ix_n (by omega) (by omega), n_cl (by omega), n_cl (by omega)]
      exact ⟨_, _, rfl, rfl, hT.nu (k := 1) (by omega), h.1, h.2.1, h.2.2.1, h.2.2.2.1, h.2.2.2.2⟩
    · (repeat (first | rw [if_pos (by decide)] | rw [if_neg (by decide)]))
      rw [n_m1 (by omega), ix_n (by omega) (by omega), ix_n (by omega) (by omega), n_cl (by omega), n_cl (by omega)]
      exact ⟨_, _, rfl, rfl, hT.nu (k := 2) (by omega), h.1, h.2.1, h.2.2.1, h.2.2.2.1, h.2.2.2.2⟩
    · (repeat (first | rw [if_pos (by decide)] | rw [if_neg (by decide)]))
      rw [n_m1 (by omega), ix_n (by omega) (by omega), ix_n (by omega) (by omega), n_cl (by omega), n_cl (by omega)]
      exact ⟨_, _, rfl, rfl, hT.nu (k := 3) (by omega), h.1, h.2.1, h.2.2.1, h.2.2.2.1, h.2.2.2.2⟩
    · (repeat (first | rw [if_pos (by decide)] | rw [if_neg (by decide)]))
      rw [n_m1 (by omega), ix_n (by omega) (by omega), ix_n (by omega) (by omega), n_cl (by omega), n_cl (by omega)]
      exact ⟨_, _, rfl, rfl, hT.nu (k := 4) (by omega), h.1, h.2.1, h.2.2.1, h.2.2.2.1, h.2.2.2.2⟩
    · (repeat (first | rw [if_pos (by decide)] | rw [if_neg (by decide)]))
      rw [n_m1 (by omega), ix_n (by omega) (by omega), ix_n (by omega) (by omega), n_cl (by omega), n_cl (by omega)]
      exact ⟨_, _, rfl, rfl, hT.nu (k := 5) (by omega), h.1, h.2.1, h.2.2.1, h.2.2.2.1, h.2.2.2.2⟩
    · (repeat (first | rw [if_pos (by decide)] | rw [if_neg (by decide)]))
      rw [n_m1 (by omega), ix_n (by omega) (by omega), ix_n (by omega) (by omega), n_cl (by omega), n_cl (by omega)]
      exact ⟨_, _, rfl, rfl, hT.nu (k := 6) (by omega), h.1, h.2.1, h.2.2.1, h.2.2.2.1, h.2.2.2.2⟩
    · (repeat (first | rw [if_pos (by decide)] | rw [if_neg (by decide)]))
      rw [n_m1 (by omega), ix_n (by omega) (by omega), ix_n (by omega) (by omega), n_cl (by omega), n_cl (by omega)]
      exact ⟨_, _, rfl, rfl, hT.nu (k := 7) (by omega), h.1, h.2.1, h.2.2.1, h.2.2.2.1, h.2.2.2.2⟩
    · (repeat (first | rw [if_pos (by decide)] | rw [if_neg (by decide)]))
      exact ⟨_, _, rfl, rfl, hT.jb, h.1, h.2.1, h.2.2.1, h.2.2.2.1, h.2.2.2.2⟩
    · (repeat (first | rw [if_pos (by decide)] | rw [if_neg (by decide)]))
      exact ⟨_, _, rfl, rfl, hc_c efg N (Nat.le_refl N), h.1, h.2.1, h.2.2.1, h.2.2.2.1, h.2.2.2.2⟩
    · (repeat (first | rw [if_pos (by decide)] | rw [if_neg (by decide)]))
      exact ⟨_, _, rfl, rfl, eod, h.1, h.2.1, h.2.2.1, h.2.2.2.1, h.2.2.2.2⟩
    · (repeat (first | rw [if_pos (by decide)] | rw [if_neg (by decide)]))
      exact ⟨_, _, rfl, rfl, eX, h.1, h.2.1, h.2.2.1, h.2.2.2.1, h.2.2.2.2⟩
    · (repeat (first | rw [if_pos (by decide)] | rw [if_neg (by decide)]))
      exact ⟨_, _, rfl, rfl, eHs, h.1, h.2.1, h.2.2.1, h.2.2.2.1, h.2.2.2.2⟩
    · (repeat (first | rw [if_pos (by decide)] | rw [if_neg (by decide)]))
      exact ⟨_, _, rfl, rfl, ek.symm, h.1, h.2.1, h.2.2.1, h.2.2.2.1, h.2.2.2.2⟩
  · rw [decide_eq_false hc, if_neg (by decide)]
    rw [if_neg (fun e => hc (by rw [e]; decide)), if_neg (fun e => hc (by rw [e]; decide)), if_neg (fun e => hc (by rw [e]; decide)), if_neg (fun e => hc (by rw [e]; decide)), if_neg (fun e => hc (by rw [e]; decide)), if_neg (fun e => hc (by rw [e]; decide)), decide_eq_false (fun e => hc ⟨e.1, Int.le_trans e.2 (by decide)⟩), if_pos rfl]
    exact ⟨_, _, rfl, rfl, rfl, h.1, h.2.1, h.2.2.1, h.2.2.2.1, h.2.2.2.2⟩
