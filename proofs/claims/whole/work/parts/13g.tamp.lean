theorem e_liftA {fu : Nat} {u : TS} {i : Nat} {t : Int32} (hi : i < 60) (h : lft u i t < S_nu u 7) : f_X1_liftOf fu u (nI i) t = some 0 := by
  rw [e_liftOf hi, if_neg (by rw [i_le]; rw [i_lt] at h; omega)]
theorem e_liftB {fu : Nat} {u : TS} {i : Nat} {t : Int32} (hi : i < 60) (h : ¬ lft u i t < S_nu u 7) : f_X1_liftOf fu u (nI i) t = some (lft u i t) := by
  rw [e_liftOf hi, if_pos (by rw [i_le]; rw [i_lt] at h; omega)]
theorem lft_rg {u : TS} {i : Nat} {t : Int32} (hI : TI u) (hi : i < 60) (ht : rg t (-9999) 9999) (h : ¬ lft u i t < S_nu u 7) : 0 < (lft u i t).toInt ∧ rg (S_lv u i + lft u i t) (-9999) 9999 := by
  obtain ⟨t1, t2⟩ := ht
  obtain ⟨l1, l2⟩ := hI.lv hi
  obtain ⟨-, -, -, -, ⟨m1, m2⟩, ⟨k1, k2⟩⟩ := hI.nu
  have hd : (t - S_lv u i).toInt = t.toInt - (S_lv u i).toInt := i_sub (by omega) (by omega)
  have h1 : 0 < (lft u i t).toInt := by
    rw [i_lt] at h
    omega
  have h2 : (lft u i t).toInt ≤ t.toInt - (S_lv u i).toInt := by
    unfold lft
    by_cases c : S_nu u 6 < t - S_lv u i
    · rw [if_pos c]
      rw [i_lt, hd] at c
      omega
    · rw [if_neg c, hd]
      omega
  refine ⟨h1, ?_⟩
  unfold rg
  rw [i_add (by omega) (by omega)]
  omega
theorem r_tamp {fu : Nat} {p : Int32} (hfu : 2000 ≤ fu) : ∀ (n1 n2 J : Nat) (left : Int32) (cn step : Nat) (u : TS) (m : TM), rmn (S_jr u) J < n1 → rmn (S_jr u) J + 1 < n2 → S_jb u = nI J → J ≤ 6 → TR u (M_ss m) → TI u → step + rmn (S_jr u) J ≤ 360 → (cn = 0 → left = p) → cn ≤ step →
    ∃ (left' : Int32) (cn' : Nat) (u' : TS) (s' : Nat → Int32), lq_4 (lb_X1_tamp_7 fu) n1 left (nI cn) (nI step) u = some (left', nI cn', u') ∧ lq_4 (lb_X5_works_7 fu) n2 left (nI cn) 1 m = some (left', nI cn', M_ss_ m s') ∧ TR u' s' ∧ TI u' ∧ (cn' = 0 → left' = p) ∧ cn' ≤ 360 ∧ S_ac u' 3 = S_ac u 3 := by
  intro n1
  induction n1 with
  | zero => intro n2 J left cn step u m hn1; omega
  | succ n1 ih =>
    intro n2 J left cn step u m hn1 hn2 hJ hJ6 hT hI hst hp hcn
    obtain ⟨n2, rfl⟩ : ∃ n', n2 = n' + 2 := ⟨n2 - 2, by omega⟩
    have ih := ih (n2 + 1)
    have fin0 : ∀ (x y : Int32) (w : TM), lq_4 (lb_X5_works_7 fu) (n2 + 1) x y 0 w = some (x, y, w) := fun x y w => by
      show lb_X5_works_7 fu (lq_4 (lb_X5_works_7 fu) n2) x y 0 w = _
      generalize lq_4 (lb_X5_works_7 fu) n2 = rc
      unfold lb_X5_works_7
      exact if_pos rfl
    show ∃ (left' : Int32) (cn' : Nat) (u' : TS) (s' : Nat → Int32), lb_X1_tamp_7 fu (lq_4 (lb_X1_tamp_7 fu) n1) left (nI cn) (nI step) u = some (left', nI cn', u') ∧ lb_X5_works_7 fu (lq_4 (lb_X5_works_7 fu) (n2 + 1)) left (nI cn) 1 m = some (left', nI cn', M_ss_ m s') ∧ TR u' s' ∧ TI u' ∧ (cn' = 0 → left' = p) ∧ cn' ≤ 360 ∧ S_ac u' 3 = S_ac u 3
    generalize lq_4 (lb_X1_tamp_7 fu) n1 = rc1 at ih ⊢
    generalize lq_4 (lb_X5_works_7 fu) (n2 + 1) = rc2 at ih fin0 ⊢
    unfold lb_X1_tamp_7 lb_X5_works_7
    simp only [nm_d, jn_e]
    rw [if_neg (show ¬ (1 : Int32) = 0 by decide), hT.jb.symm, hJ]
    by_cases hJ0 : J = 0
    · subst hJ0
      rw [if_pos (show nI 0 ≤ 0 by decide), if_pos (show nI 0 ≤ 0 by decide)]
      refine ⟨left, cn, u, M_ss m, ?_, rfl, hT, hI, hp, by omega, rfl⟩
      by_cases c : (360 : Int32) ≤ nI step
      · rw [if_pos c]
      · rw [if_neg c]
    · have hJp : ¬ nI J ≤ 0 := n_nle (b := 0) (by omega) (by omega) (by omega)
      rw [if_neg hJp, if_neg hJp]
      have g0 : 0 ≤ (S_jr u 0).toInt ∧ (S_jr u 0).toInt ≤ (S_jr u 3).toInt ∧ (S_jr u 3).toInt ≤ (S_jr u 1).toInt ∧ (S_jr u 1).toInt < (S_sl u).toInt ∧ rg (S_jr u 2) (-9999) 9999 := hI.jr (j := 0) (by rw [hJ, n_ti (by omega)]; omega)
      obtain ⟨b1, b2, b3, b4, b5⟩ := g0
      obtain ⟨a1, a2⟩ := hI.sl
      obtain ⟨i, ei, ei2, -⟩ := i_of (x := S_jr u 3) (by omega)
      have s20 : M_ss m 20 = S_jr u 3 := (hT.jr (k := 3) (by omega) (by rw [hJ, n_ti (by omega)]; omega)).symm
      have s19 : M_ss m 19 = S_jr u 2 := (hT.jr (k := 2) (by omega) (by rw [hJ, n_ti (by omega)]; omega)).symm
      obtain ⟨ux, sx, Jx, -, -, -, -, -, -, hrx, -⟩ := r_go hT hI hJ (by omega) hJ6 hfu
      have e8 : M_ss m 8 = S_nu u 7 := (hT.nu (k := 7) (by omega)).symm
      rw [if_neg (show ¬ (360 : Int32) ≤ nI step from n_nle (a := 360) (by omega) (by omega) (by omega))]
      have jv3 : f_X1_jobValue fu u (0 : Int32) (3 : Int32) = some (nI i) := by
        rw [show f_X1_jobValue fu u (0 : Int32) (3 : Int32) = some (S_jr u 3) from e_jobV (r := 0) (c := 3) (by omega), ei]
      have jo3 : f_X5_jobOf fu m (0 : Int32) (3 : Int32) = some (nI i) := by
        rw [show f_X5_jobOf fu m (0 : Int32) (3 : Int32) = some (M_ss m 20) from e_jobO (r := 0) (c := 3) (by omega), s20, ei]
      have jo2 : f_X5_jobOf fu m (0 : Int32) (2 : Int32) = some (S_jr u 2) := by
        rw [show f_X5_jobOf fu m (0 : Int32) (2 : Int32) = some (M_ss m 19) from e_jobO (r := 0) (c := 2) (by omega), s19]
      rw [jv3, show f_X1_jobValue fu u (0 : Int32) (2 : Int32) = some (S_jr u 2) from e_jobV (r := 0) (c := 2) (by omega), jo3, jo2]
      simp only [bd_s, e_mf4, e_mf5]
      rw [e8, e_liftOf5 hT (by omega)]
      simp only [bd_s]
      by_cases cA : lft u i (S_jr u 2) < S_nu u 7
      · rw [e_liftA (by omega) cA, if_pos cA]
        simp only [bd_s]
        rw [if_pos (show (0 : Int32) ≤ 0 by decide)]
        simp only [if_true, if_neg (show ¬ (1 : Int32) = 0 by decide)]
        obtain ⟨u2, s2, J2, h1, h2, h3, h4, h5, h6, h7, h8⟩ := r_go hT hI hJ (by omega) hJ6 hfu
        rw [h1, bd_s, n_p1]
        obtain ⟨l', c', u', s', k1, k2, k3, k4, k5, k6, k7⟩ := ih J2 left cn (step + 1) u2 (M_ss_ m s2) (by omega) (by omega) h5 h6 h3 h4 (by omega) hp (by omega)
        exact ⟨l', c', u', s', k1, (h2 _ (fun w => rc2 left (nI cn) 1 w)).trans k2, k3, k4, k5, k6, k7.trans (by rw [h8])⟩
      · obtain ⟨q1, q2⟩ := lft_rg hI (show i < 60 by omega) b5 cA
        rw [e_liftB (by omega) cA, if_neg cA]
        simp only [bd_s]
        generalize lft u i (S_jr u 2) = l at q1 q2 ⊢
        rw [if_neg (show ¬ l ≤ 0 by rw [i_le, z_0]; omega)]
        simp only [if_neg (show ¬ (1 : Int32) = 0 by decide)]
        by_cases cB : mf l ≤ left
        · rw [if_pos cB, if_neg (show ¬ left < mf l by rw [i_lt]; rw [i_le] at cB; omega)]
          rw [e_raise (by omega), e_lift5 hT (by omega)]
          simp only [bd_s]
          have tR : TR (raT u i l) (M_ss (M_ss_ m (raS u (M_ss m) i l))) := TR_ra hT (by omega)
          have tI : TI (raT u i l) := TI_ra hI (by omega) q2
          obtain ⟨u2, s2, J2, h1, h2, h3, h4, h5, h6, h7, h8⟩ := r_go (u := raT u i l) (m := M_ss_ m (raS u (M_ss m) i l)) tR tI hJ (by omega) hJ6 hfu
          have h7 : rmn (S_jr u2) J2 + 1 = rmn (S_jr u) J := h7
          rw [h1, bd_s, n_p1, n_p1]
          obtain ⟨l', c', u', s', k1, k2, k3, k4, k5, k6, k7⟩ := ih J2 (left - mf l) (cn + 1) (step + 1) u2 (M_ss_ m s2) (by omega) (by omega) h5 h6 h3 h4 (by omega) (fun e => by omega) (by omega)
          exact ⟨l', c', u', s', k1, (h2 _ (fun w => rc2 (left - mf l) (nI (cn + 1)) 1 w)).trans k2, k3, k4, k5, k6, k7.trans (by rw [h8]; exact (show upd (S_ac u) 1 (S_ac u 1 + l) 3 = S_ac u 3 from pk_un (by omega)))⟩
        · rw [if_neg cB, if_pos (show left < mf l by rw [i_lt]; rw [i_le] at cB; omega)]
          simp only [if_true]
          exact ⟨left, cn, u, M_ss m, rfl, fin0 _ _ _, hT, hI, hp, by omega, rfl⟩
/-- both machines -/
theorem r_works {fu : Nat} {p : Int32} {u : TS} {m : TM} (hT : TR u (M_ss m)) (hI : TI u) (hfu : 2000 ≤ fu) :
    ∃ (z : Int32) (cn : Nat) (u' : TS) (s' : Nat → Int32), f_X1_tamp fu u p = some (nI cn, S_ac_ u' (upd (S_ac u') 3 (S_ac u' 3 + (p - z)))) ∧ f_X5_works fu m p = some (nI cn, M_ss_ m (upd s' 12 (s' 12 + (p - z)))) ∧ TR u' s' ∧ TI u' ∧ (cn = 0 → z = p) ∧ cn ≤ 360 ∧ S_ac u' 3 = S_ac u 3 := by
  obtain ⟨b1, b2⟩ := hI.jb
  obtain ⟨J, eJ, eJ2, -⟩ := i_of (x := S_jb u) (by omega)
  have hr := rmn_le hI eJ (by omega) J (Nat.le_refl J)
  obtain ⟨z, cn, u', s', k1, k2, k3, k4, k5, k6, k7⟩ := r_tamp (p := p) hfu fu fu J p 0 0 u m (by omega) (by omega) eJ (by omega) hT hI (by omega) (fun _ => rfl) (by omega)
  refine ⟨z, cn, u', s', ?_, ?_, k3, k4, k5, k6, k7⟩
  · unfold f_X1_tamp
    rw [show lf_X1_tamp_7 fu fu p (0 : Int32) (0 : Int32) u = _ from k1, bd_s]
    rfl
  · unfold f_X5_works
    rw [show lf_X5_works_7 fu fu p (0 : Int32) (1 : Int32) m = _ from k2, bd_s]
    rfl
theorem op_work {fu : Nat} (hfu : 2000 ≤ fu) : OP_work RR fu := by
  intro C m p h
  obtain ⟨hT, hI, hH, hIm, hX⟩ := id h
  unfold f_X4_work f_X5_work
  simp only [e_within, e_in, bd_s, bf, Bool.not_eq_false, nm_d]
  rw [← hT.jb]
  by_cases hc : (1 : Int32).toInt ≤ p.toInt ∧ p.toInt ≤ (600 : Int32).toInt
  · rw [decide_eq_true hc]; simp only [it_tt, it_ff, it_tf, it_ft, if_true, if_false]
    by_cases hj : S_jb (C_now C) = 0
    · rw [if_neg (fun e => e hj), if_neg (fun e => e hj)]
      exact ⟨_, _, rfl, rfl, rfl, h.1, h.2.1, h.2.2.1, h.2.2.2.1, h.2.2.2.2⟩
    · rw [if_pos hj, if_pos hj]
      obtain ⟨h', q0, q1, q2, q3, q4, q5, pa', ps', s1, s2, hH'⟩ := r_save hfu hH hT hI
      obtain ⟨z, cn, u', s', k1, k2, k3, k4, k5, k6, -⟩ := r_works (p := p) (m := M_ps_ (M_pa_ m pa') ps') hT hI hfu
      rw [s1, bd_s, s2, bd_s, k1, bd_s, k2, bd_s]
      have k7 := TR_ac (i := 3) (x := S_ac u' 3 + (p - z)) k3 (by omega)
      rw [show S_ac u' 3 = s' 12 from k3.ac (k := 3) (by omega)] at k7 ⊢
      exact ⟨_, _, rfl, rfl, rfl, k7, TI_ac k4, hH', hIm, hX⟩
  · rw [decide_eq_false hc]; simp only [it_tt, it_ff, it_tf, it_ft, if_true, if_false]
    exact ⟨_, _, rfl, rfl, rfl, h.1, h.2.1, h.2.2.1, h.2.2.2.1, h.2.2.2.2⟩
theorem e_putBack {fu : Nat} (m : TM) (hfu : 2000 ≤ fu) : f_X5_putBack fu m = some (M_ss_ m (fl (M_as m) (M_ss m) 0 281)) := by
  have h := cp_loop (F := lb_X5_putBack_2 fu) 281 (fun k => M_ss_ m (fl (M_as m) (M_ss m) 0 k)) (fun rec => by
    unfold lb_X5_putBack_2
    exact if_pos (n_le' (a := 281) (by omega) (by omega) (Nat.le_refl 281))) (fun rec k hk => by
    unfold lb_X5_putBack_2
    rw [if_neg (show ¬ (281 : Int32) ≤ nI k from n_nle (a := 281) (by omega) (by omega) hk), ix_n hk (by omega), nm_d, ix_n hk (by omega), nm_d, nm_d, n_p1, n_cl (by omega)]
    rw [← fl_s0 (M_as m) (M_ss m) k]
    rfl) fu 0 (by omega) (by omega)
  rw [fl_0] at h
  unfold f_X5_putBack
  rw [show lf_X5_putBack_2 fu fu (0 : Int32) m = _ from h]
  rfl
theorem back_eq (s s1 a : Nat → Int32) : ∀ k, k < 281 → fl (fl s a 0 281) s1 0 281 k = s k := fun k hk => by
  rw [fl_in0 hk, fl_in0 hk]
theorem i_addsub (a b : Int32) : a + b - a = b := by
  rw [Int32.add_comm, Int32.add_sub_cancel]
theorem op_minutesLeft {fu : Nat} (hfu : 2000 ≤ fu) : OP_minutesLeft RR fu := by
  intro C m h
  obtain ⟨hT, hI, hH, hIm, hX⟩ := id h
  have tT : TR (cpT (C_tr C) (C_now C)) (M_ss m) := TR_cp hT
  obtain ⟨z, cn, u', s', k1, k2, k3, k4, k5, k6, k7⟩ := r_works (p := (1000000 : Int32)) (u := cpT (C_tr C) (C_now C)) (m := M_as_ m (fl (M_ss m) (M_as m) 0 281)) tT (TI_cp hI) hfu
  have a3 : S_ac u' 3 = S_ac (C_now C) 3 := k7.trans (show va_cpy (S_ac (C_now C)) (S_ac (C_tr C)) 0 0 7 3 = S_ac (C_now C) 3 from sb_cpy0 (by omega))
  have a12 : s' 12 = M_ss m 12 := (k3.ac (k := 3) (by omega)).symm.trans (a3.trans (hT.ac (k := 3) (by omega)))
  unfold f_X4_minutesLeft f_X5_minutesLeft
  rw [e_copyFrom, bd_s, k1, bd_s, e_putAside m hfu, bd_s]
  simp only [nm_d]
  rw [k2, bd_s]
  rw [e_putBack _ hfu]
  simp only [bd_s]
  have e1 : upd (S_ac u') 3 (S_ac u' 3 + ((1000000 : Int32) - z)) 3 - S_ac (C_now C) 3 = (1000000 : Int32) - z := by
    rw [pk_us, a3, i_addsub]
  have e2 : upd s' 12 (s' 12 + ((1000000 : Int32) - z)) 12 - M_ss m 12 = (1000000 : Int32) - z := by
    rw [pk_us, a12, i_addsub]
  have fin : TR (C_now C) (fl (fl (M_ss m) (M_as m) 0 281) (upd s' 12 (s' 12 + ((1000000 : Int32) - z))) 0 281) := TR_cong hT (back_eq _ _ _)
  by_cases c0 : cn = 0
  · rw [if_neg (show ¬ ¬ nI cn = 0 by rw [c0]; decide)]
    refine ⟨_, _, rfl, rfl, ?_, fin, hI, hH, hIm, hX⟩
    refine Eq.trans e1 ?_
    rw [k5 c0, Int32.sub_self]
  · rw [if_pos (show ¬ nI cn = 0 from fun e => c0 ((n_eq (b := 0) (by omega) (by omega)).mp e))]
    exact ⟨_, _, rfl, rfl, e1.trans e2.symm, fin, hI, hH, hIm, hX⟩
