/-! cancelJobs, work -/
theorem c_cancel {fu : Nat} {p : Int32} : ∀ (r n : Nat) (cn : Nat) (u : TS) (J : Nat), r < n → cn + r ≤ 1000 → S_jb u = nI J → J ≤ 6 → r ≤ J → TI u → SI u →
    ∃ (c' : Nat) (u' : TS), lq_3 (lb_X4_cancelJobs_37 fu p) n (nI cn) (nI r - 1) u = some (nI c', u') ∧ c' ≤ cn + r ∧ TI u' ∧ SI u' ∧ S_ac u' = S_ac u := by
  intro r
  induction r with
  | zero =>
    intro n cn u J hn hcn hJ hJ6 hr hI hSI
    obtain ⟨n, rfl⟩ : ∃ n', n = n' + 1 := ⟨n - 1, by omega⟩
    refine ⟨cn, u, ?_, by omega, hI, hSI, rfl⟩
    show lb_X4_cancelJobs_37 fu p (lq_3 (lb_X4_cancelJobs_37 fu p) n) (nI cn) (nI 0 - 1) u = _
    generalize lq_3 (lb_X4_cancelJobs_37 fu p) n = rc
    unfold lb_X4_cancelJobs_37
    exact if_pos (by decide)
  | succ r ih =>
    intro n cn u J hn hcn hJ hJ6 hr hI hSI
    obtain ⟨n, rfl⟩ : ∃ n', n = n' + 1 := ⟨n - 1, by omega⟩
    show ∃ (c' : Nat) (u' : TS), lb_X4_cancelJobs_37 fu p (lq_3 (lb_X4_cancelJobs_37 fu p) n) (nI cn) (nI (r + 1) - 1) u = some (nI c', u') ∧ c' ≤ cn + (r + 1) ∧ TI u' ∧ SI u' ∧ S_ac u' = S_ac u
    have ih := ih n
    generalize lq_3 (lb_X4_cancelJobs_37 fu p) n = rc1 at ih ⊢
    rw [n_m1 (by omega), show r + 1 - 1 = r by omega]
    unfold lb_X4_cancelJobs_37
    rw [if_neg (n_nneg r (by omega))]
    rw [show f_X1_jobValue fu u (nI r) (3 : Int32) = _ from e_jobV (c := 3) (by omega), show f_X1_jobValue fu u (nI r) (1 : Int32) = _ from e_jobV (c := 1) (by omega)]
    simp only [bd_s, e_within, jn_e, nm_d, bf, sub_m1]
    cases hd : decide ((S_jr u (4 * r + 3)).toInt ≤ p.toInt ∧ p.toInt ≤ (S_jr u (4 * r + 1)).toInt) with
    | false =>
      rw [if_pos rfl]
      obtain ⟨c', u', g1, g2, g3, g4, g5⟩ := ih cn u J (by omega) (by omega) hJ hJ6 (by omega) hI hSI
      exact ⟨c', u', g1, by omega, g3, g4, g5⟩
    | true =>
      rw [if_neg (by decide), e_removeJob hJ hJ6 (by omega)]
      simp only [bd_s]
      rw [n_p1]
      obtain ⟨c', u', g1, g2, g3, g4, g5⟩ := ih (cn + 1) (dU u r J) (J - 1) (by omega) (by omega) rfl (by omega) (by omega) (TI_drop hI hJ hJ6 (by omega)) hSI
      exact ⟨c', u', g1, by omega, g3, g4, g5⟩
theorem d_cancel {fu T z : Nat} {hi : TH} {r0 r1 r2 r3 r4 r5 now : TS} {p : Int32} (hfu : 2000 ≤ fu) (hG : GOOD T now) (hH : HI T hi (RW r0 r1 r2 r3 r4 r5) z) :
    ∃ o, f_X4_cancelJobs fu now hi r0 r1 r2 r3 r4 r5 p = some o ∧ ST T z now (hi, r0, r1, r2, r3, r4, r5) o.1 o.2.1 o.2.2 := by
  obtain ⟨hI, hSI, h4⟩ := id hG
  unfold f_X4_cancelJobs
  simp only [e_has, bd_s, bf, Bool.not_eq_false, nm_d]
  cases h1 : hs (S_sl now) p with
  | false =>
    simp only [it_tt, it_ff, it_tf, it_ft, if_true, if_false]
    exact ⟨_, rfl, Or.inl ⟨er_1, rfl, rfl⟩⟩
  | true =>
    simp only [it_tt, it_ff, it_tf, it_ft, if_true, if_false]
    obtain ⟨b1, b2⟩ := hI.jb
    obtain ⟨J, eJ, eJ2, -⟩ := i_of (x := S_jb now) (by omega)
    obtain ⟨h', q0, q1, q2, q3, q4, q5, s1, hH', hT'⟩ := h_save (fu := fu) hH hG
    obtain ⟨c', u', g1, g2, g3, g4, g5⟩ := c_cancel (fu := fu) (p := p) J fu 0 now J (by omega) (by omega) eJ (by omega) (Nat.le_refl J) hI hSI
    rw [s1, bd_s, eJ, show lf_X4_cancelJobs_37 fu p fu (0 : Int32) (nI J - 1) now = _ from g1, bd_s]
    refine ⟨_, rfl, Or.inr ⟨?_, ⟨g3, g4, ?_⟩, hH', hT'⟩⟩
    · show -50000 < (nI c').toInt
      rw [n_ti (by omega)]
      omega
    · show rg (S_ac u' 4) 0 ((T + 50 : Nat) : Int)
      rw [g5]
      exact (hG.up (Nat.le_add_right T 50)).2.2
theorem c_go {fu : Nat} {u : TS} {J : Nat} (hI : TI u) (hJ : S_jb u = nI J) (hJ1 : 1 ≤ J) (hJ6 : J ≤ 6) :
    ∃ u2 J2, f_X1_goOn fu u = some u2 ∧ TI u2 ∧ S_jb u2 = nI J2 ∧ J2 ≤ 6 ∧ rmn (S_jr u2) J2 + 1 = rmn (S_jr u) J ∧ S_ac u2 = S_ac u ∧ S_lv u2 = S_lv u ∧ S_se u2 = S_se u ∧ S_li u2 = S_li u ∧ S_sl u2 = S_sl u := by
  have g0 : 0 ≤ (S_jr u 0).toInt ∧ (S_jr u 0).toInt ≤ (S_jr u 3).toInt ∧ (S_jr u 3).toInt ≤ (S_jr u 1).toInt ∧ (S_jr u 1).toInt < (S_sl u).toInt ∧ rg (S_jr u 2) (-9999) 9999 := hI.jr (j := 0) (by rw [hJ, n_ti (by omega)]; omega)
  obtain ⟨b1, b2, b3, b4, b5⟩ := g0
  obtain ⟨a1, a2⟩ := hI.sl
  obtain ⟨i, ei, ei2, -⟩ := i_of (x := S_jr u 3) (by omega)
  obtain ⟨e, ee, ee2, -⟩ := i_of (x := S_jr u 1) (by omega)
  by_cases c : e ≤ i
  · have egoon : f_X1_goOn fu u = some (dU u 0 J) := by
      unfold f_X1_goOn
      simp only [nm_d]
      rw [ei, ee, if_pos (n_le' (by omega) (by omega) c), show f_X1_removeJob fu u (0 : Int32) = _ from e_removeJob (j := 0) hJ hJ6 (by omega)]
      rfl
    refine ⟨dU u 0 J, J - 1, egoon, TI_drop hI hJ hJ6 (by omega), rfl, by omega, ?_, rfl, rfl, rfl, rfl, rfl⟩
    obtain ⟨J', rfl⟩ : ∃ J', J = J' + 1 := ⟨J - 1, by omega⟩
    rw [rmn_shift (f := S_jr u) (g := S_jr (dU u 0 (J' + 1))) J' (fun k hk => by rw [dU_jr (by omega), if_neg (by omega)])]
    show rmn (S_jr (dU u 0 (J' + 1))) J' + 1 = _
    omega
  · have egoon : f_X1_goOn fu u = some (S_jr_ u (upd (S_jr u) 3 (nI (i + 1)))) := by
      unfold f_X1_goOn
      simp only [nm_d]
      rw [ei, ee, if_neg (n_nle (by omega) (by omega) (by omega)), n_p1]
    refine ⟨S_jr_ u (upd (S_jr u) 3 (nI (i + 1))), J, egoon, ?_, hJ, hJ6, ?_, rfl, rfl, rfl, rfl, rfl⟩
    · obtain ⟨h0, h1, h2, h3, h4, h5⟩ := hI
      refine ⟨h0, h1, h2, h3, h4, fun z hz => ?_⟩
      have h6 := h5 z hz
      unfold JI at h6 ⊢
      show 0 ≤ (upd (S_jr u) 3 (nI (i + 1)) (4 * z)).toInt ∧ (upd (S_jr u) 3 (nI (i + 1)) (4 * z)).toInt ≤ (upd (S_jr u) 3 (nI (i + 1)) (4 * z + 3)).toInt ∧ (upd (S_jr u) 3 (nI (i + 1)) (4 * z + 3)).toInt ≤ (upd (S_jr u) 3 (nI (i + 1)) (4 * z + 1)).toInt ∧ (upd (S_jr u) 3 (nI (i + 1)) (4 * z + 1)).toInt < (S_sl u).toInt ∧ rg (upd (S_jr u) 3 (nI (i + 1)) (4 * z + 2)) (-9999) 9999
      rw [pk_un (k := 3) (j := 4 * z) (by omega), pk_un (k := 3) (j := 4 * z + 1) (by omega), pk_un (k := 3) (j := 4 * z + 2) (by omega)]
      by_cases z0 : z = 0
      · subst z0
        rw [show 4 * 0 + 3 = 3 from rfl, pk_us, n_ti (by omega)]
        refine ⟨h6.1, ?_, ?_, h6.2.2.2⟩
        · show (S_jr u 0).toInt ≤ _
          omega
        · show _ ≤ (S_jr u 1).toInt
          omega
      · rw [pk_un (k := 3) (j := 4 * z + 3) (by omega)]
        exact h6
    · obtain ⟨J', rfl⟩ : ∃ J', J = J' + 1 := ⟨J - 1, by omega⟩
      rw [rmn_shift (f := S_jr u) (g := fun k => S_jr u (k + 4)) J' (fun k _ => rfl), rmn_shift (f := S_jr (S_jr_ u (upd (S_jr u) 3 (nI (i + 1))))) (g := fun k => S_jr u (k + 4)) J' (fun k _ => by
        show S_jr u (k + 4) = upd (S_jr u) 3 (nI (i + 1)) (k + 4)
        rw [pk_un (by omega)])]
      show ((upd (S_jr u) 3 (nI (i + 1)) 1).toInt - (upd (S_jr u) 3 (nI (i + 1)) 3).toInt + 1).toNat + _ + 1 = _
      rw [pk_un (by omega), pk_us, n_ti (by omega)]
      omega
theorem SI_same {u v : TS} (h : SI u) (e1 : S_ac v = S_ac u) (e2 : S_lv v = S_lv u) (e3 : S_se v = S_se u) (e4 : S_li v = S_li u) (e5 : S_sl v = S_sl u) : SI v := by
  unfold SI at h ⊢
  rw [e1, e2, e3, e4, e5]
  exact h
theorem c_tamp {fu : Nat} : ∀ (n1 J : Nat) (left : Int32) (cn step : Nat) (u : TS), rmn (S_jr u) J < n1 → S_jb u = nI J → J ≤ 6 → TI u → SI u → step + rmn (S_jr u) J ≤ 360 → cn ≤ step →
    ∃ (left' : Int32) (cn' : Nat) (u' : TS), lq_4 (lb_X1_tamp_7 fu) n1 left (nI cn) (nI step) u = some (left', nI cn', u') ∧ TI u' ∧ SI u' ∧ cn' ≤ 360 ∧ S_ac u' 4 = S_ac u 4 := by
  intro n1
  induction n1 with
  | zero => intro J left cn step u hn1; omega
  | succ n1 ih =>
    intro J left cn step u hn1 hJ hJ6 hI hSI hst hcn
    show ∃ (left' : Int32) (cn' : Nat) (u' : TS), lb_X1_tamp_7 fu (lq_4 (lb_X1_tamp_7 fu) n1) left (nI cn) (nI step) u = some (left', nI cn', u') ∧ TI u' ∧ SI u' ∧ cn' ≤ 360 ∧ S_ac u' 4 = S_ac u 4
    generalize lq_4 (lb_X1_tamp_7 fu) n1 = rc1 at ih ⊢
    unfold lb_X1_tamp_7
    simp only [nm_d, jn_e]
    rw [hJ]
    by_cases hJ0 : J = 0
    · subst hJ0
      rw [if_pos (show nI 0 ≤ 0 by decide)]
      refine ⟨left, cn, u, ?_, hI, hSI, by omega, rfl⟩
      by_cases c : (360 : Int32) ≤ nI step
      · rw [if_pos c]
      · rw [if_neg c]
    · have hJp : ¬ nI J ≤ 0 := n_nle (b := 0) (by omega) (by omega) (by omega)
      rw [if_neg hJp]
      have g0 : 0 ≤ (S_jr u 0).toInt ∧ (S_jr u 0).toInt ≤ (S_jr u 3).toInt ∧ (S_jr u 3).toInt ≤ (S_jr u 1).toInt ∧ (S_jr u 1).toInt < (S_sl u).toInt ∧ rg (S_jr u 2) (-9999) 9999 := hI.jr (j := 0) (by rw [hJ, n_ti (by omega)]; omega)
      obtain ⟨b1, b2, b3, b4, b5⟩ := g0
      obtain ⟨a1, a2⟩ := hI.sl
      obtain ⟨i, ei, ei2, -⟩ := i_of (x := S_jr u 3) (by omega)
      obtain ⟨N, eN, eN2, -⟩ := i_of (x := S_sl u) (by omega)
      obtain ⟨ux, Jx, -, -, -, -, hrx, -⟩ := c_go (fu := fu) hI hJ (by omega) hJ6
      rw [if_neg (show ¬ (360 : Int32) ≤ nI step from n_nle (a := 360) (by omega) (by omega) (by omega))]
      have jv3 : f_X1_jobValue fu u (0 : Int32) (3 : Int32) = some (nI i) := by
        rw [show f_X1_jobValue fu u (0 : Int32) (3 : Int32) = some (S_jr u 3) from e_jobV (r := 0) (c := 3) (by omega), ei]
      rw [jv3, show f_X1_jobValue fu u (0 : Int32) (2 : Int32) = some (S_jr u 2) from e_jobV (r := 0) (c := 2) (by omega)]
      simp only [bd_s, e_mf4]
      by_cases cA : lft u i (S_jr u 2) < S_nu u 7
      · rw [e_liftA (by omega) cA]
        simp only [bd_s]
        rw [if_pos (show (0 : Int32) ≤ 0 by decide)]
        obtain ⟨u2, J2, h1, h4, h5, h6, h7, x1, x2, x3, x4, x5⟩ := c_go (fu := fu) hI hJ (by omega) hJ6
        rw [h1, bd_s, n_p1]
        obtain ⟨l', c', u', k1, k2, k3, k4, k5⟩ := ih J2 left cn (step + 1) u2 (by omega) h5 h6 h4 (SI_same hSI x1 x2 x3 x4 x5) (by omega) (by omega)
        exact ⟨l', c', u', k1, k2, k3, k4, k5.trans (by rw [x1])⟩
      · obtain ⟨q1, q2⟩ := lft_rg hI (show i < 60 by omega) b5 cA
        rw [e_liftB (by omega) cA]
        simp only [bd_s]
        generalize lft u i (S_jr u 2) = l at q1 q2 ⊢
        rw [if_neg (show ¬ l ≤ 0 by rw [i_le, z_0]; omega)]
        by_cases cB : mf l ≤ left
        · rw [if_pos cB]
          rw [e_raise (by omega)]
          simp only [bd_s]
          have tI : TI (raT u i l) := TI_ra hI (by omega) q2
          have tS : SI (raT u i l) := SI_ra hSI (by rw [eN, n_cl (by omega)]; omega)
          obtain ⟨u2, J2, h1, h4, h5, h6, h7, x1, x2, x3, x4, x5⟩ := c_go (fu := fu) (u := raT u i l) tI hJ (by omega) hJ6
          have h7 : rmn (S_jr u2) J2 + 1 = rmn (S_jr u) J := h7
          rw [h1, bd_s, n_p1, n_p1]
          obtain ⟨l', c', u', k1, k2, k3, k4, k5⟩ := ih J2 (left - mf l) (cn + 1) (step + 1) u2 (by omega) h5 h6 h4 (SI_same tS x1 x2 x3 x4 x5) (by omega) (by omega)
          exact ⟨l', c', u', k1, k2, k3, k4, k5.trans (by rw [x1]; exact (show upd (S_ac u) 1 (S_ac u 1 + l) 4 = S_ac u 4 from pk_un (by omega)))⟩
        · rw [if_neg cB]
          exact ⟨left, cn, u, rfl, hI, hSI, by omega, rfl⟩
theorem c_works {fu : Nat} {p : Int32} {u : TS} (hI : TI u) (hSI : SI u) (hfu : 2000 ≤ fu) :
    ∃ (cn : Nat) (u' : TS), f_X1_tamp fu u p = some (nI cn, u') ∧ TI u' ∧ SI u' ∧ cn ≤ 360 ∧ S_ac u' 4 = S_ac u 4 := by
  obtain ⟨b1, b2⟩ := hI.jb
  obtain ⟨J, eJ, eJ2, -⟩ := i_of (x := S_jb u) (by omega)
  have hr := rmn_le hI eJ (by omega) J (Nat.le_refl J)
  obtain ⟨z, cn, u', k1, k2, k3, k4, k5⟩ := c_tamp (fu := fu) fu J p 0 0 u (by omega) eJ (by omega) hI hSI (by omega) (by omega)
  refine ⟨cn, S_ac_ u' (upd (S_ac u') 3 (S_ac u' 3 + (p - z))), ?_, TI_ac k2, SI_ac3' k3, k4, ?_⟩
  · unfold f_X1_tamp
    rw [show lf_X1_tamp_7 fu fu p (0 : Int32) (0 : Int32) u = _ from k1, bd_s]
    rfl
  · show upd (S_ac u') 3 (S_ac u' 3 + (p - z)) 4 = _
    rw [pk_un (by omega)]
    exact k5
theorem d_work {fu T z : Nat} {hi : TH} {r0 r1 r2 r3 r4 r5 now : TS} {p : Int32} (hfu : 2000 ≤ fu) (hG : GOOD T now) (hH : HI T hi (RW r0 r1 r2 r3 r4 r5) z) :
    ∃ o, f_X4_work fu now hi r0 r1 r2 r3 r4 r5 p = some o ∧ ST T z now (hi, r0, r1, r2, r3, r4, r5) o.1 o.2.1 o.2.2 := by
  obtain ⟨hI, hSI, h4⟩ := id hG
  unfold f_X4_work
  simp only [e_within, bd_s, bf, Bool.not_eq_false, nm_d]
  by_cases hc : (1 : Int32).toInt ≤ p.toInt ∧ p.toInt ≤ (600 : Int32).toInt
  · rw [decide_eq_true hc]; simp only [it_tt, it_ff, it_tf, it_ft, if_true, if_false]
    by_cases hj : S_jb now = 0
    · rw [if_neg (fun e => e hj)]
      exact ⟨_, rfl, Or.inl ⟨er_2, rfl, rfl⟩⟩
    · rw [if_pos hj]
      obtain ⟨h', q0, q1, q2, q3, q4, q5, s1, hH', hT'⟩ := h_save (fu := fu) hH hG
      obtain ⟨cn, u', k1, k2, k3, k4, k5⟩ := c_works (p := p) hI hSI hfu
      rw [s1, bd_s, k1, bd_s]
      refine ⟨_, rfl, Or.inr ⟨?_, ⟨k2, k3, ?_⟩, hH', hT'⟩⟩
      · show -50000 < (nI cn).toInt
        rw [n_ti (by omega)]
        omega
      · show rg (S_ac u' 4) 0 ((T + 50 : Nat) : Int)
        rw [k5]
        exact (hG.up (Nat.le_add_right T 50)).2.2
  · rw [decide_eq_false hc]; simp only [it_tt, it_ff, it_tf, it_ft, if_true, if_false]
    exact ⟨_, rfl, Or.inl ⟨er_1, rfl, rfl⟩⟩
