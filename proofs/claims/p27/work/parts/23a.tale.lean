/-! the tale -/
theorem v_tale {fu : Nat} {u : TS} {v : TV} {hi : TH} {tx : TX} {kp : Nat → Int32} {N K A : Nat} {g : Nat → Int32} {mk : Int32} (hI : TI u) (hv : GV u N K A g) (hm : f_X4_keptMask fu kp = some mk) (hfu : 2000 ≤ fu) :
    ∃ w, f_L_tale fu u v hi tx kp = some (TL u N A g, w) := by
  obtain ⟨eN, hN1, hN2, -⟩ := id hv
  have L1 : ∃ x, lf_L_tale_6 fu u hi tx kp fu (3 : Int64) (0 : Int32) v = some x ∧ x.1 = tlc (cw u N A g) 12 := by
    refine lq_k3 (F := lb_L_tale_6 fu u hi tx kp) (fun d a1 a2 _ => ∃ k, d = 12 - k ∧ k ≤ 12 ∧ a1 = tlc (cw u N A g) k ∧ a2 = nI k) (fun x => x.1 = tlc (cw u N A g) 12) ?_ fu 12 _ _ _ (by omega) ⟨0, rfl, by omega, rfl, rfl⟩
    rintro rec d a1 a2 a3 ⟨k, hd, hk, rfl, rfl⟩ ih
    unfold lb_L_tale_6
    by_cases h : 12 ≤ k
    · have e : k = 12 := by omega
      subst e
      rw [if_pos (show (12 : Int32) ≤ nI 12 by decide)]
      exact ⟨_, rfl, rfl⟩
    · rw [if_neg (show ¬ (12 : Int32) ≤ nI k from n_nle (a := 12) (by omega) (by omega) (by omega))]
      obtain ⟨w, e⟩ := v_count (fu := fu) (v := a3) (hi := hi) (tx := tx) (k := k) hI hv hm (by omega) hfu
      rw [cv_cw (by omega)] at e
      rw [nm_d, e]
      dsimp only [bd_s, nm_d]
      rw [n_p1]
      exact ih (12 - (k + 1)) _ _ _ (by omega) ⟨k + 1, rfl, by omega, rfl, rfl⟩
  obtain ⟨⟨x1, w1⟩, e1, q1⟩ := L1
  have q1 : x1 = tlc (cw u N A g) 12 := q1
  have L2 : ∃ x, lf_L_tale_33 fu u hi tx kp fu x1 (0 : Int32) w1 = some x ∧ x.1 = tls (S_lv u) (S_fo u) (S_se u) (S_li u) x1 N := by
    refine lq_k3 (F := lb_L_tale_33 fu u hi tx kp) (fun d a1 a2 _ => ∃ k, d = N - k ∧ k ≤ N ∧ a1 = tls (S_lv u) (S_fo u) (S_se u) (S_li u) x1 k ∧ a2 = nI k) (fun x => x.1 = tls (S_lv u) (S_fo u) (S_se u) (S_li u) x1 N) ?_ fu N _ _ _ (by omega) ⟨0, rfl, by omega, rfl, rfl⟩
    rintro rec d a1 a2 a3 ⟨k, hd, hk, rfl, rfl⟩ ih
    unfold lb_L_tale_33
    obtain ⟨w, e⟩ := v_c0 (fu := fu) (v := a3) (hi := hi) (tx := tx) hI hv hm hfu
    rw [eN] at e
    rw [e]
    dsimp only [bd_s, nm_d]
    by_cases h : N ≤ k
    · have e : k = N := by omega
      subst e
      rw [if_pos (n_le' (by omega) (by omega) h)]
      exact ⟨_, rfl, rfl⟩
    · rw [if_neg (n_nle (by omega) (by omega) (by omega))]
      obtain ⟨w2, e2⟩ := v_s0 (fu := fu) (v := w) (i := k) hI hv (by omega) hfu
      obtain ⟨w3, e3⟩ := v_s1 (fu := fu) (v := w2) (i := k) hI hv (by omega) hfu
      obtain ⟨w4, e4⟩ := v_s8 (fu := fu) (v := w3) (i := k) hI hv (by omega) hfu
      obtain ⟨w5, e5⟩ := v_s9 (fu := fu) (v := w4) (i := k) hI hv (by omega) hfu
      rw [e2]
      dsimp only [bd_s]
      rw [e3]
      dsimp only [bd_s]
      rw [e4]
      dsimp only [bd_s]
      rw [e5]
      dsimp only [bd_s]
      rw [n_p1]
      exact ih (N - (k + 1)) _ _ _ (by omega) ⟨k + 1, rfl, by omega, rfl, rfl⟩
  obtain ⟨⟨x2, w2⟩, e2, q2⟩ := L2
  have q2 : x2 = tls (S_lv u) (S_fo u) (S_se u) (S_li u) x1 N := q2
  have L3 : lf_L_tale_102 fu u fu x2 (0 : Int32) = some (tlj (jv u) x2 6) := by
    refine cp_loop2 (F := lb_L_tale_102 fu u) 6 (fun k => tlj (jv u) x2 k) (fun k => nI k) (tlj (jv u) x2 6) (fun rec => ?_) (fun rec k hk => ?_) fu 0 (by omega) (by omega)
    · unfold lb_L_tale_102
      exact if_pos (by decide)
    · unfold lb_L_tale_102
      rw [if_neg (show ¬ (6 : Int32) ≤ nI k from n_nle (a := 6) (by omega) (by omega) (by omega)), show f_X4_job fu u (nI k) (0 : Int32) = _ from v_job (c := 0) (by omega) (by omega), show f_X4_job fu u (nI k) (1 : Int32) = _ from v_job (c := 1) (by omega) (by omega), show f_X4_job fu u (nI k) (2 : Int32) = _ from v_job (c := 2) (by omega) (by omega), show f_X4_job fu u (nI k) (3 : Int32) = _ from v_job (c := 3) (by omega) (by omega)]
      dsimp only [bd_s, nm_d]
      rw [n_p1]
      rfl
  have L4 : ∀ x3, lf_L_tale_166 fu u fu x3 (0 : Int32) = some (tla (S_ac u) x3 7) := by
    intro x3
    refine cp_loop2 (F := lb_L_tale_166 fu u) 7 (fun k => tla (S_ac u) x3 k) (fun k => nI k) (tla (S_ac u) x3 7) (fun rec => ?_) (fun rec k hk => ?_) fu 0 (by omega) (by omega)
    · unfold lb_L_tale_166
      exact if_pos (by decide)
    · unfold lb_L_tale_166
      rw [if_neg (show ¬ (7 : Int32) ≤ nI k from n_nle (a := 7) (by omega) (by omega) (by omega)), v_account hk]
      dsimp only [bd_s, nm_d]
      rw [n_p1]
      rfl
  refine ⟨w2, ?_⟩
  unfold f_L_tale
  rw [e1]
  dsimp only [bd_s]
  rw [e2]
  dsimp only [bd_s]
  rw [L3]
  dsimp only [bd_s]
  rw [L4]
  dsimp only [bd_s]
  rw [q2, q1]
  rfl
