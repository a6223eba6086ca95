/-! jobs -/
theorem cpk_n {a b c n0 n1 : Nat} (h0 : a + c ≤ n0) (h1 : b + c ≤ n1) (g0 : n0 < 2147483648) (g1 : n1 < 2147483648) : cpk (nI a) (nI b) (nI c) n0 n1 = true := by
  unfold cpk
  rw [n_cl (by omega), n_cl (by omega), n_cl (by omega), decide_eq_true (n_nneg a (by omega)), decide_eq_true (n_nneg b (by omega)), decide_eq_true (n_nneg c (by omega)), decide_eq_true h0, decide_eq_true h1]
  rfl
theorem e_jobV {fu : Nat} {u : TS} {r c : Nat} (h : 4 * r + c < 24) : f_X1_jobValue fu u (nI r) (nI c) = some (S_jr u (4 * r + c)) := by
  unfold f_X1_jobValue
  simp only [nm_d]
  rw [n_4m, n_a, ix_n h (by omega), n_cl (by omega)]
theorem e_jobO {fu : Nat} {m : TM} {r c : Nat} (h : 4 * r + c < 24) : f_X5_jobOf fu m (nI r) (nI c) = some (M_ss m (17 + (4 * r + c))) := by
  unfold f_X5_jobOf
  simp only [nm_d]
  rw [n_m4, n_17, n_a, ix_n (by omega) (by omega), n_cl (by omega), Nat.add_assoc]
/-- a job dropped -/
def dU (u : TS) (j J : Nat) : TS := S_jb_ (S_jr_ u (va_cpy (S_jr u) (S_jr u) (4 * (j + 1)) (4 * j) (4 * J - 4 * (j + 1)))) (nI (J - 1))
def dSc (s : Nat → Int32) (j J c : Nat) : Nat → Int32 := fun k => if k = 16 then nI (J - 1) else if 17 + 4 * j ≤ k ∧ k < 17 + 4 * j + c then s (k + 4) else s k
theorem dSc16 (s : Nat → Int32) (j J c : Nat) : dSc s j J c 16 = nI (J - 1) := by
  unfold dSc
  rw [if_pos rfl]
theorem dU_jr {u : TS} {j J k : Nat} (hk : k < 4 * (J - 1)) : S_jr (dU u j J) k = if k < 4 * j then S_jr u k else S_jr u (k + 4) := by
  show va_cpy (S_jr u) (S_jr u) (4 * (j + 1)) (4 * j) (4 * J - 4 * (j + 1)) k = _
  unfold va_cpy
  by_cases c : k < 4 * j
  · rw [if_pos c, if_neg (by omega)]
  · rw [if_neg c, if_pos (by omega)]
    congr 1
    omega
theorem e_removeJob {fu : Nat} {u : TS} {j J : Nat} (hJ : S_jb u = nI J) (hJ6 : J ≤ 6) (hj : j < J) : f_X1_removeJob fu u (nI j) = some (dU u j J) := by
  unfold f_X1_removeJob
  simp only [nm_d]
  rw [hJ, n_p1, n_4m, n_4m, n_4m, n_s (by omega), rq_t (cpk_n (by omega) (by omega) (by omega) (by omega)), n_cl (by omega), n_cl (by omega), n_cl (by omega)]
  show some (S_jb_ (S_jr_ u _) (S_jb u - 1)) = _
  rw [hJ, n_m1 (by omega)]
  rfl
theorem e_drops {fu : Nat} {m : TM} {j J : Nat} (h16 : M_ss m 16 = nI J) (hJ6 : J ≤ 6) (hj : j < J) (hfu : 2000 ≤ fu) : f_X5_drops fu m (nI j) = some (M_ss_ m (dSc (M_ss m) j J (4 * (J - 1 - j)))) := by
  have h := cp_loop2 (F := lb_X5_drops_18 fu) (4 * (J - 1 - j)) (fun c => nI (17 + 4 * j + c)) (fun c => M_ss_ m (dSc (M_ss m) j J c)) (M_ss_ m (dSc (M_ss m) j J (4 * (J - 1 - j)))) (fun rec => by
    unfold lb_X5_drops_18
    simp only [nm_d]
    rw [show M_ss (M_ss_ m (dSc (M_ss m) j J (4 * (J - 1 - j)))) 16 = nI (J - 1) from dSc16 (M_ss m) j J (4 * (J - 1 - j)), n_m4, n_17, if_pos (n_le' (by omega) (by omega) (by omega))]) (fun rec k hk => by
    unfold lb_X5_drops_18
    simp only [nm_d]
    rw [show M_ss (M_ss_ m (dSc (M_ss m) j J k)) 16 = nI (J - 1) from dSc16 (M_ss m) j J k, n_m4, n_17, if_neg (n_nle (by omega) (by omega) (by omega)), n_p4, ix_n (by omega) (by omega), ix_n (by omega) (by omega), n_cl (by omega), n_cl (by omega), n_p1]
    have e : upd (dSc (M_ss m) j J k) (17 + 4 * j + k) (dSc (M_ss m) j J k (17 + 4 * j + k + 4)) = dSc (M_ss m) j J (k + 1) := by
      funext t
      by_cases c : t = 17 + 4 * j + k
      · subst c
        rw [pk_us]
        unfold dSc
        rw [if_neg (by omega), if_neg (by omega), if_neg (by omega), if_pos (by omega)]
      · rw [pk_un c]
        unfold dSc
        by_cases c2 : t = 16
        · rw [if_pos c2, if_pos c2]
        · rw [if_neg c2, if_neg c2]
          by_cases c3 : 17 + 4 * j ≤ t ∧ t < 17 + 4 * j + k
          · rw [if_pos c3, if_pos (by omega)]
          · rw [if_neg c3, if_neg (by omega)]
    show rec _ (M_ss_ m (upd (dSc (M_ss m) j J k) (17 + 4 * j + k) (dSc (M_ss m) j J k (17 + 4 * j + k + 4)))) = _
    rw [e]
    rfl) fu 0 (by omega) (by omega)
  have e0 : upd (M_ss m) 16 (nI (J - 1)) = dSc (M_ss m) j J 0 := by
    funext t
    unfold dSc
    by_cases c : t = 16
    · rw [if_pos c, c, pk_us]
    · rw [if_neg c, pk_un c, if_neg (by omega)]
  unfold f_X5_drops
  simp only [nm_d]
  rw [h16, n_m1 (by omega), n_m4, n_17, e0, show lf_X5_drops_18 fu fu (nI (17 + 4 * j)) (M_ss_ m (dSc (M_ss m) j J 0)) = _ from h]
  rfl
theorem TR_drop {u : TS} {s s1 : Nat → Int32} {j J : Nat} (h : TR u s) (hJ : S_jb u = nI J) (hJ6 : J ≤ 6) (hj : j < J) (hs : ∀ k, k < 17 + 4 * j ∨ 17 + 4 * j + 4 ≤ k → s1 k = s k) : TR (dU u j J) (dSc s1 j J (4 * (J - 1 - j))) := by
  obtain ⟨h0, h1, h2, h3, h4, h5, h6, h7, h8⟩ := h
  have out : ∀ k, k ≠ 16 → k < 17 ∨ 41 ≤ k → dSc s1 j J (4 * (J - 1 - j)) k = s k := fun k c1 c2 => by
    unfold dSc
    rw [if_neg c1, if_neg (by omega)]
    exact hs k (by omega)
  refine ⟨?_, fun k hk => ?_, fun k hk => ?_, ?_, fun k hk => ?_, fun k hk => ?_, fun k hk => ?_, fun k hk => ?_, fun k hk hk2 => ?_⟩
  · exact Eq.trans h0 (out _ (by omega) (by omega)).symm
  · exact Eq.trans (h1 k hk) (out _ (by omega) (by omega)).symm
  · exact Eq.trans (h2 k hk) (out _ (by omega) (by omega)).symm
  · unfold dSc
    rw [if_pos rfl]
    rfl
  · exact Eq.trans (h4 k hk) (out _ (by omega) (by omega)).symm
  · exact Eq.trans (h5 k hk) (out _ (by omega) (by omega)).symm
  · exact Eq.trans (h6 k hk) (out _ (by omega) (by omega)).symm
  · exact Eq.trans (h7 k hk) (out _ (by omega) (by omega)).symm
  · have hk3 : (k : Int) < 4 * (nI (J - 1)).toInt := hk2
    rw [n_ti (by omega)] at hk3
    by_cases c : k < 4 * j
    · have e : dSc s1 j J (4 * (J - 1 - j)) (17 + k) = s1 (17 + k) := by
        unfold dSc
        rw [if_neg (by omega), if_neg (by omega)]
      rw [dU_jr (by omega), if_pos c, e, hs _ (by omega)]
      exact h8 k hk (by rw [hJ, n_ti (by omega)]; omega)
    · have e : dSc s1 j J (4 * (J - 1 - j)) (17 + k) = s1 (17 + k + 4) := by
        unfold dSc
        rw [if_neg (by omega), if_pos (by omega)]
      rw [dU_jr (by omega), if_neg c, e, hs _ (by omega), Nat.add_assoc]
      exact h8 (k + 4) (by omega) (by rw [hJ, n_ti (by omega)]; omega)
theorem TI_drop {u : TS} {j J : Nat} (h : TI u) (hJ : S_jb u = nI J) (hJ6 : J ≤ 6) (hj : j < J) : TI (dU u j J) := by
  obtain ⟨h0, h1, h2, h3, h4, h5⟩ := h
  refine ⟨h0, h1, h2, h3, ?_, fun i hi => ?_⟩
  · show rg (nI (J - 1)) 0 6
    unfold rg
    rw [n_ti (by omega)]
    omega
  · have hi2 : (i : Int) < (nI (J - 1)).toInt := hi
    rw [n_ti (by omega)] at hi2
    unfold JI
    rw [dU_jr (by omega), dU_jr (by omega), dU_jr (by omega), dU_jr (by omega)]
    by_cases c : i < j
    · rw [if_pos (by omega), if_pos (by omega), if_pos (by omega), if_pos (by omega)]
      exact h5 i (by rw [hJ, n_ti (by omega)]; omega)
    · rw [if_neg (by omega), if_neg (by omega), if_neg (by omega), if_neg (by omega)]
      have h6 := h5 (i + 1) (by rw [hJ, n_ti (by omega)]; omega)
      unfold JI at h6
      rw [show 4 * (i + 1) + 3 = 4 * i + 3 + 4 by omega, show 4 * (i + 1) + 1 = 4 * i + 1 + 4 by omega, show 4 * (i + 1) + 2 = 4 * i + 2 + 4 by omega, show 4 * (i + 1) = 4 * i + 4 by omega] at h6
      exact h6
theorem r_cancel {fu : Nat} {p : Int32} (hfu : 2000 ≤ fu) : ∀ (r n : Nat) (c : Int32) (u : TS) (m : TM) (J : Nat), r < n → S_jb u = nI J → J ≤ 6 → r ≤ J → TR u (M_ss m) → TI u →
    ∃ c' u' s', lq_3 (lb_X4_cancelJobs_37 fu p) n c (nI r - 1) u = some (c', u') ∧ lq_3 (lb_X5_cancelJobs_27 fu p) n c (nI r - 1) m = some (c', M_ss_ m s') ∧ TR u' s' ∧ TI u' := by
  intro r
  induction r with
  | zero =>
    intro n c u m J hn hJ hJ6 hr hT hI
    obtain ⟨n, rfl⟩ : ∃ n', n = n' + 1 := ⟨n - 1, by omega⟩
    refine ⟨c, u, M_ss m, ?_, ?_, hT, hI⟩
    · show lb_X4_cancelJobs_37 fu p (lq_3 (lb_X4_cancelJobs_37 fu p) n) c (nI 0 - 1) u = _
      generalize lq_3 (lb_X4_cancelJobs_37 fu p) n = rc
      unfold lb_X4_cancelJobs_37
      exact if_pos (by decide)
    · show lb_X5_cancelJobs_27 fu p (lq_3 (lb_X5_cancelJobs_27 fu p) n) c (nI 0 - 1) m = _
      generalize lq_3 (lb_X5_cancelJobs_27 fu p) n = rc
      unfold lb_X5_cancelJobs_27
      exact if_pos (by decide)
  | succ r ih =>
    intro n c u m J hn hJ hJ6 hr hT hI
    obtain ⟨n, rfl⟩ : ∃ n', n = n' + 1 := ⟨n - 1, by omega⟩
    have j3 : M_ss m (17 + (4 * r + 3)) = S_jr u (4 * r + 3) := (hT.jr (by omega) (by rw [hJ, n_ti (by omega)]; omega)).symm
    have j1 : M_ss m (17 + (4 * r + 1)) = S_jr u (4 * r + 1) := (hT.jr (by omega) (by rw [hJ, n_ti (by omega)]; omega)).symm
    show ∃ c' u' s', lb_X4_cancelJobs_37 fu p (lq_3 (lb_X4_cancelJobs_37 fu p) n) c (nI (r + 1) - 1) u = some (c', u') ∧ lb_X5_cancelJobs_27 fu p (lq_3 (lb_X5_cancelJobs_27 fu p) n) c (nI (r + 1) - 1) m = some (c', M_ss_ m s') ∧ TR u' s' ∧ TI u'
    have ih := ih n
    generalize lq_3 (lb_X4_cancelJobs_37 fu p) n = rc1 at ih ⊢
    generalize lq_3 (lb_X5_cancelJobs_27 fu p) n = rc2 at ih ⊢
    rw [n_m1 (by omega), show r + 1 - 1 = r by omega]
    unfold lb_X4_cancelJobs_37 lb_X5_cancelJobs_27
    rw [if_neg (n_nneg r (by omega)), if_neg (n_nneg r (by omega))]
    rw [show f_X1_jobValue fu u (nI r) (3 : Int32) = _ from e_jobV (c := 3) (by omega), show f_X1_jobValue fu u (nI r) (1 : Int32) = _ from e_jobV (c := 1) (by omega), show f_X5_jobOf fu m (nI r) (3 : Int32) = _ from e_jobO (c := 3) (by omega), show f_X5_jobOf fu m (nI r) (1 : Int32) = _ from e_jobO (c := 1) (by omega)]
    simp only [bd_s, e_within, e_in, jn_e, nm_d, bf, sub_m1]
    rw [j3, j1]
    cases hd : decide ((S_jr u (4 * r + 3)).toInt ≤ p.toInt ∧ p.toInt ≤ (S_jr u (4 * r + 1)).toInt) with
    | false =>
      rw [if_pos rfl, if_pos rfl]
      exact ih c u m J (by omega) hJ hJ6 (by omega) hT hI
    | true =>
      rw [if_neg (by decide), if_neg (by decide), e_removeJob hJ hJ6 (by omega), e_drops (hT.jb.symm.trans hJ) hJ6 (by omega) hfu]
      simp only [bd_s]
      obtain ⟨c', u', s', g1, g2, g3, g4⟩ := ih (c + 1) (dU u r J) (M_ss_ m (dSc (M_ss m) r J (4 * (J - 1 - r)))) (J - 1) (by omega) rfl (by omega) (by omega) (TR_drop hT hJ hJ6 (by omega) (fun k _ => rfl)) (TI_drop hI hJ hJ6 (by omega))
      exact ⟨c', u', s', g1, g2, g3, g4⟩
theorem op_cancelJobs {fu : Nat} (hfu : 2000 ≤ fu) : OP_cancelJobs RR fu := by
  intro C m p h
  obtain ⟨hT, hI, hH, hIm, hX⟩ := id h
  unfold f_X4_cancelJobs f_X5_cancelJobs
  simp only [e_has, e_isSleeper, bd_s, bf, Bool.not_eq_false, nm_d]
  rw [← hT.sl]
  cases h1 : hs (S_sl (C_now C)) p with
  | false =>
    simp only [it_tt, it_ff, it_tf, it_ft, if_true, if_false]
    exact ⟨_, _, rfl, rfl, rfl, h.1, h.2.1, h.2.2.1, h.2.2.2.1, h.2.2.2.2⟩
  | true =>
    simp only [it_tt, it_ff, it_tf, it_ft, if_true, if_false]
    obtain ⟨b1, b2⟩ := hI.jb
    obtain ⟨J, eJ, eJ2, -⟩ := i_of (x := S_jb (C_now C)) (by omega)
    obtain ⟨h', q0, q1, q2, q3, q4, q5, pa', ps', s1, s2, hH'⟩ := r_save hfu hH hT hI
    obtain ⟨c', u', s', g1, g2, g3, g4⟩ := r_cancel (p := p) hfu J fu 0 (C_now C) (M_ps_ (M_pa_ m pa') ps') J (by omega) eJ (by omega) (Nat.le_refl J) hT hI
    rw [s1, bd_s, s2, bd_s, show M_ss (M_ps_ (M_pa_ m pa') ps') 16 = nI J from hT.jb.symm.trans eJ, eJ, show lf_X4_cancelJobs_37 fu p fu (0 : Int32) (nI J - 1) (C_now C) = _ from g1, bd_s, show lf_X5_cancelJobs_27 fu p fu (0 : Int32) (nI J - 1) (M_ps_ (M_pa_ m pa') ps') = _ from g2, bd_s]
    exact ⟨_, _, rfl, rfl, rfl, g3, g4, hH', hIm, hX⟩
