theorem r_read {fu : Nat} {c : Nat → Int32} {n N : Nat} {m : TM} (hX : HX c n m) (hN1 : 10 ≤ N) (hN2 : N ≤ 60) (hfu : 2000 ≤ fu) : ∀ (f1 f2 k p : Nat) (e v : Int32) (u : TS) (s : Nat → Int32), p ≤ n → 2 * k ≤ p → n - p < f1 → n - p + 1 < f2 → TR u s → TI u → S_sl u = nI N →
    (∃ (k' p' : Nat) (e' v' : Int32) (u' : TS) (s' : Nat → Int32), lq_3 (lb_X3_readInto_7 fu) f1 (nI k) (tx c n e p) u = some (Sum.inl (nI k', tx c n e' p', u')) ∧ lq_3 (lb_X5_load_13 fu) f2 (nI k) 1 (mm m s p v) = some (nI k', 1, mm m s' p' v') ∧ TR u' s' ∧ TI u' ∧ k' ≤ 100) ∨
    (∃ (q p' : Nat) (k' v' : Int32) (u' : TS) (s' : Nat → Int32), lq_3 (lb_X3_readInto_7 fu) f1 (nI k) (tx c n e p) u = some (Sum.inl ((-1 : Int32), tx c n (nI q) p', u')) ∧ lq_3 (lb_X5_load_13 fu) f2 (nI k) 1 (mm m s p v) = some (k', 0, mm m s' q v')) := by
  have hn := hX.1
  intro f1
  induction f1 with
  | zero => intro f2 k p e v u s h1 h2 h3; omega
  | succ f1 ih =>
    intro f2 k p e v u s hp hk h3 h4 hT hI hN
    obtain ⟨f2, rfl⟩ : ∃ f, f2 = f + 2 := ⟨f2 - 2, by omega⟩
    have ih := ih (f2 + 1)
    have fin0 : ∀ (x : Int32) (w : TM), lq_3 (lb_X5_load_13 fu) (f2 + 1) x 0 w = some (x, 0, w) := fun x w => by
      show lb_X5_load_13 fu (lq_3 (lb_X5_load_13 fu) f2) x 0 w = _
      generalize lq_3 (lb_X5_load_13 fu) f2 = rc
      unfold lb_X5_load_13
      exact if_pos rfl
    have c1 : lq_3 (lb_X3_readInto_7 fu) (f1 + 1) (nI k) (tx c n e p) u = lb_X3_readInto_7 fu (lq_3 (lb_X3_readInto_7 fu) f1) (nI k) (tx c n e p) u := rfl
    have c2 : lq_3 (lb_X5_load_13 fu) (f2 + 2) (nI k) 1 (mm m s p v) = lb_X5_load_13 fu (lq_3 (lb_X5_load_13 fu) (f2 + 1)) (nI k) 1 (mm m s p v) := rfl
    rw [c1, c2]
    clear c1 c2
    generalize lq_3 (lb_X3_readInto_7 fu) f1 = rc1 at ih ⊢
    generalize lq_3 (lb_X5_load_13 fu) (f2 + 1) = rc2 at ih fin0 ⊢
    obtain ⟨r1, r2⟩ := sk_r (c := c) hp
    unfold lb_X3_readInto_7 lb_X5_load_13
    rw [if_neg (show ¬ (100 : Int32) ≤ nI k from n_nle (a := 100) (by omega) (by omega) (by omega)), if_neg (show ¬ (1 : Int32) = 0 by decide), e_skip hn hp hfu, e_here hX hp hfu]
    simp only [bd_s, nm_d]
    rw [show X_po (tx c n e (sk c n p)) = nI (sk c n p) from rfl, show X_ln (tx c n e (sk c n p)) = nI n from rfl]
    by_cases h : sk c n p < n
    · rw [if_pos ((n_lt (by omega) (by omega)).mpr h), if_pos h]
      obtain ⟨⟨g1, g2⟩, -⟩ := hX.2.2 (sk c n p) h
      rw [if_neg (show ¬ c (sk c n p) < 0 by rw [i_lt, z_0]; omega)]
      rcases s_item (fu := fu) (e := e) (v := v) hX r2 hN hN1 hN2 hT hI hfu with ⟨e', p', u', s', v', k1, k2, k3, k4, k5, k6, k7⟩ | ⟨q, p', u', s', v', k1, k2⟩
      · rw [k1, k2]
        simp only [bd_s, n_p1]
        rw [if_pos (show ¬ bI true = 0 by decide)]
        exact ih (k + 1) p' e' v' u' s' k7 (by omega) (by omega) (by omega) k3 k4 k5
      · rw [k1, k2]
        simp only [bd_s, n_p1]
        rw [if_neg (show ¬ ¬ bI false = 0 by decide)]
        exact Or.inr ⟨q, p', nI (k + 1), v', u', s', rfl, fin0 _ _⟩
    · rw [if_neg (fun x => h ((n_lt (by omega) (by omega)).mp x)), if_neg h, if_pos m_neg]
      exact Or.inl ⟨k, sk c n p, e, v, u, s, rfl, rfl, hT, hI, by omega⟩
theorem e_swap {fu : Nat} (w : TM) (hfu : 2000 ≤ fu) : lf_X5_load_37 fu fu (0 : Int32) w = some (M_as_ (M_ss_ w (fl (M_as w) (M_ss w) 0 281)) (fl (M_ss w) (M_as w) 0 281)) := by
  have h := cp_loop (F := lb_X5_load_37 fu) 281 (fun k => M_as_ (M_ss_ w (fl (M_as w) (M_ss w) 0 k)) (fl (M_ss w) (M_as w) 0 k)) (fun rec => by
    unfold lb_X5_load_37
    exact if_pos (n_le' (a := 281) (by omega) (by omega) (Nat.le_refl 281))) (fun rec k hk => by
    unfold lb_X5_load_37
    rw [if_neg (show ¬ (281 : Int32) ≤ nI k from n_nle (a := 281) (by omega) (by omega) hk)]
    simp only [nm_d]
    rw [ix_n hk (by omega), ix_n hk (by omega), ix_n hk (by omega), ix_n hk (by omega), n_p1, n_cl (by omega)]
    rw [show M_ss (M_as_ (M_ss_ w (fl (M_as w) (M_ss w) 0 k)) (fl (M_ss w) (M_as w) 0 k)) k = M_ss w k from fl_out (by omega), show M_as (M_as_ (M_ss_ w (fl (M_as w) (M_ss w) 0 k)) (fl (M_ss w) (M_as w) 0 k)) k = M_as w k from fl_out (by omega)]
    rw [← fl_s0 (M_as w) (M_ss w) k, ← fl_s0 (M_ss w) (M_as w) k]
    rfl) fu 0 (by omega) (by omega)
  rw [fl_0, fl_0] at h
  exact h
theorem op_load {fu : Nat} (hfu : 2000 ≤ fu) : OP_load RR fu := by
  intro C m h
  obtain ⟨hT, hI, hH, hIm, n, hn, hx, hm, hk⟩ := id h
  obtain ⟨N, -, -, -, eN, hN1, hN2, -⟩ := hI.nat
  have hX : HX (X_ch (C_tx C)) n (M_as_ m (fl (M_ss m) (M_as m) 0 281)) := ⟨hn, hm, hk⟩
  have et : X_po_ (C_tx C) (0 : Int32) = tx (X_ch (C_tx C)) n (X_ep (C_tx C)) 0 := by
    show (X_ch (C_tx C), X_ln (C_tx C), X_ep (C_tx C), (0 : Int32)) = _
    rw [hx]
    rfl
  have em : M_at_ (M_as_ m (fl (M_ss m) (M_as m) 0 281)) (0 : Int32) = mm (M_as_ m (fl (M_ss m) (M_as m) 0 281)) (M_ss m) 0 (M_nu m) := rfl
  unfold f_X4_load f_X5_load f_X3_readInto
  rw [e_copyFrom, bd_s, nm_d, et, e_putAside m hfu, bd_s, nm_d, em]
  rcases r_read (fu := fu) (N := N) hX hN1 hN2 hfu fu fu 0 0 (X_ep (C_tx C)) (M_nu m) (cpT (C_tr C) (C_now C)) (M_ss m) (by omega) (by omega) (by omega) (by omega) (TR_cp hT) (TI_cp hI) eN with ⟨k', p', e', v', u', s', k1, k2, k3, k4, k5⟩ | ⟨q, p', k', v', u', s', k1, k2⟩
  · rw [show lf_X3_readInto_7 fu fu (0 : Int32) (tx (X_ch (C_tx C)) n (X_ep (C_tx C)) 0) (cpT (C_tr C) (C_now C)) = _ from k1, show lf_X5_load_13 fu fu (0 : Int32) (1 : Int32) (mm (M_as_ m (fl (M_ss m) (M_as m) 0 281)) (M_ss m) 0 (M_nu m)) = _ from k2]
    simp only [bd_s, sm]
    rw [e_swap _ hfu]
    simp only [bd_s, e_copyFrom, nm_d, mm_as, mm_ss, mm_ss_, M_as_as]
    rw [if_pos (n_nn k' (by omega)), if_pos (show ¬ (1 : Int32) = 0 by decide)]
    generalize hA : fl (M_ss m) (M_as m) 0 281 = A
    have tS : TR (C_now C) (M_ss (M_as_ (mm (M_as_ m A) (fl A s' 0 281) p' v') (fl s' A 0 281))) := TR_cong hT (fun k hk => by
      show fl A s' 0 281 k = M_ss m k
      rw [← hA]
      exact back_eq (M_ss m) s' (M_as m) k hk)
    obtain ⟨h', q0, q1, q2, q3, q4, q5, pa', ps', s1, s2, hH'⟩ := r_save (fu := fu) (m := M_as_ (mm (M_as_ m A) (fl A s' 0 281) p' v') (fl s' A 0 281)) hfu hH tS hI
    rw [s1, s2]
    simp only [bd_s]
    rw [e_putBack _ hfu]
    simp only [bd_s]
    exact ⟨_, _, rfl, rfl, rfl, TR_cong (TR_cp k3) (back_eq s' _ _), TI_cp k4, hH', hIm, 0, by omega, rfl, rfl, fun k hk => by omega⟩
  · rw [show lf_X3_readInto_7 fu fu (0 : Int32) (tx (X_ch (C_tx C)) n (X_ep (C_tx C)) 0) (cpT (C_tr C) (C_now C)) = _ from k1, show lf_X5_load_13 fu fu (0 : Int32) (1 : Int32) (mm (M_as_ m (fl (M_ss m) (M_as m) 0 281)) (M_ss m) 0 (M_nu m)) = _ from k2]
    simp only [bd_s, sm]
    rw [e_swap _ hfu]
    simp only [bd_s, nm_d, mm_as, mm_ss, mm_ss_, M_as_as]
    rw [if_neg m_nn, if_neg (show ¬ ¬ True from fun x => x trivial)]
    generalize hA : fl (M_ss m) (M_as m) 0 281 = A
    have tS : TR (C_now C) (M_ss (M_as_ (mm (M_as_ m A) (fl A s' 0 281) q v') (fl s' A 0 281))) := TR_cong hT (fun k hk => by
      show fl A s' 0 281 k = M_ss m k
      rw [← hA]
      exact back_eq (M_ss m) s' (M_as m) k hk)
    exact ⟨_, _, rfl, rfl, rfl, tS, hI, hH, hIm, n, hn, rfl, hm, hk⟩
