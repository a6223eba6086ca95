theorem mm_ps (m : TM) (s : Nat → Int32) (p : Nat) (v : Int32) : M_ps (mm m s p v) = M_ps m := rfl
theorem mm_pa (m : TM) (s : Nat → Int32) (p : Nat) (v : Int32) : M_pa (mm m s p v) = M_pa m := rfl
theorem mm_kp (m : TM) (s : Nat → Int32) (p : Nat) (v : Int32) : M_kp (mm m s p v) = M_kp m := rfl
theorem mm_im (m : TM) (s : Nat → Int32) (p : Nat) (v : Int32) : M_im (mm m s p v) = M_im m := rfl
theorem RH_c {hi : TH} {w : Nat → TS} {m M : TM} (e1 : M_ps M = M_ps m) (e2 : M_pa M = M_pa m) (h : RH hi w m) : RH hi w M := by
  unfold RH at h ⊢
  rw [e1, e2]
  exact h
theorem RI_c {kp : Nat → Int32} {i0 i1 : TS} {m M : TM} (e1 : M_kp M = M_kp m) (e2 : M_im M = M_im m) (h : RI kp i0 i1 m) : RI kp i0 i1 M := by
  unfold RI at h ⊢
  rw [e1, e2]
  exact h
theorem RX_c {t : TX} {m M : TM} (e1 : M_ty M = M_ty m) (e2 : M_tx M = M_tx m) (h : RX t m) : RX t M := by
  unfold RX at h ⊢
  rw [e1, e2]
  exact h
theorem sm_il {α β γ : Type} (a : α) (f : α → γ) (g : β → γ) : sm (Sum.inl a) f g = f a := rfl
theorem at_mm (m : TM) (A : Nat → Int32) : M_at_ (M_as_ m A) (0 : Int32) = mm (M_as_ m A) (M_ss m) 0 (M_nu m) := rfl
theorem op_load {fu : Nat} (hfu : 2000 ≤ fu) : OP_load RR fu := by
  intro C m h
  obtain ⟨hT, hI, hH, hIm, hRX⟩ := id h
  obtain ⟨n, hn, hx, hm, hk⟩ := id hRX
  obtain ⟨N, -, -, -, eN, hN1, hN2, -⟩ := hI.nat
  unfold f_X4_load f_X5_load f_X3_readInto
  rw [e_copyFrom, bd_s, nm_d, e_putAside m hfu, bd_s, nm_d]
  have bk : ∀ s1 k, k < 281 → fl (fl (M_ss m) (M_as m) 0 281) s1 0 281 k = M_ss m k := fun s1 k hk => back_eq (M_ss m) s1 (M_as m) k hk
  generalize fl (M_ss m) (M_as m) 0 281 = A at bk ⊢
  have hX : HX (X_ch (C_tx C)) n (M_as_ m A) := ⟨hn, by rw [M_as_ty]; exact hm, by rw [M_as_tx]; exact hk⟩
  have et : X_po_ (C_tx C) (0 : Int32) = tx (X_ch (C_tx C)) n (X_ep (C_tx C)) 0 := by
    show (X_ch (C_tx C), X_ln (C_tx C), X_ep (C_tx C), (0 : Int32)) = _
    rw [hx]
    rfl
  rw [et, at_mm]
  rcases r_read (fu := fu) (N := N) hX hN1 hN2 hfu fu fu 0 0 (X_ep (C_tx C)) (M_nu m) (cpT (C_tr C) (C_now C)) (M_ss m) (by omega) (by omega) (by omega) (by omega) (TR_cp hT) (TI_cp hI) eN with ⟨k', p', e', v', u', s', k1, k2, k3, k4, k5⟩ | ⟨q, p', k', v', u', s', k1, k2⟩
  · rw [show lf_X3_readInto_7 fu fu (0 : Int32) (tx (X_ch (C_tx C)) n (X_ep (C_tx C)) 0) (cpT (C_tr C) (C_now C)) = _ from k1, show lf_X5_load_13 fu fu (0 : Int32) (1 : Int32) (mm (M_as_ m A) (M_ss m) 0 (M_nu m)) = _ from k2]
    simp only [bd_s, sm]
    rw [e_swap _ hfu]
    simp only [bd_s, e_copyFrom, nm_d, mm_as, mm_ss, mm_ss_, M_as_as]
    rw [if_pos (n_nn k' (by omega)), if_pos (show ¬ (1 : Int32) = 0 by decide)]
    generalize hZ : M_as_ (mm (M_as_ m A) (fl A s' 0 281) p' v') (fl s' A 0 281) = Z
    have zs : M_ss Z = fl A s' 0 281 := by rw [← hZ, M_as_ss, mm_ss]
    have za : M_as Z = fl s' A 0 281 := by rw [← hZ, M_as_as]
    have z1 : M_ps Z = M_ps m := by rw [← hZ, M_as_ps, mm_ps, M_as_ps]
    have z2 : M_pa Z = M_pa m := by rw [← hZ, M_as_pa, mm_pa, M_as_pa]
    have z3 : M_kp Z = M_kp m := by rw [← hZ, M_as_kp, mm_kp, M_as_kp]
    have z4 : M_im Z = M_im m := by rw [← hZ, M_as_im, mm_im, M_as_im]
    clear hZ k1 k2
    have tS : TR (C_now C) (M_ss Z) := by
      rw [zs]
      exact TR_cong hT (bk s')
    obtain ⟨h', q0, q1, q2, q3, q4, q5, pa', ps', s1, s2, hH'⟩ := r_save (fu := fu) (m := Z) hfu (RH_c z1 z2 hH) tS hI
    rw [s1, s2]
    simp only [bd_s]
    rw [e_putBack _ hfu]
    simp only [bd_s]
    refine ⟨_, _, rfl, rfl, rfl, ?_, TI_cp k4, RH_c ?_ ?_ hH', RI_c ?_ ?_ hIm, ?_⟩
    · rw [M_ty_ss, M_ss_ss]
      refine TR_cong (TR_cp k3) (fun k hk => ?_)
      rw [fl_in0 hk, M_ps_as, M_pa_as, za, fl_in0 hk]
    · rw [M_ty_ps, M_ss_ps]
    · rw [M_ty_pa, M_ss_pa]
    · rw [M_ty_kp, M_ss_kp, M_ps_kp, M_pa_kp, z3]
    · rw [M_ty_im, M_ss_im, M_ps_im, M_pa_im, z4]
    · exact ⟨0, by omega, rfl, rfl, fun k hk => absurd hk (by omega)⟩
  · rw [show lf_X3_readInto_7 fu fu (0 : Int32) (tx (X_ch (C_tx C)) n (X_ep (C_tx C)) 0) (cpT (C_tr C) (C_now C)) = _ from k1, show lf_X5_load_13 fu fu (0 : Int32) (1 : Int32) (mm (M_as_ m A) (M_ss m) 0 (M_nu m)) = _ from k2]
    rw [bd_s, sm_il, bd_s, bd_s]
    dsimp only
    rw [e_swap _ hfu, bd_s, if_neg m_nn, if_neg (show ¬ ¬ (0 : Int32) = 0 from fun x => x rfl)]
    simp only [nm_d, mm_as, mm_ss, mm_ss_, M_as_as]
    have hans : ((-200000 : Int32) - X_ep (tx (X_ch (C_tx C)) n (nI q) p')) = (-200000 : Int32) - M_at (M_as_ (mm (M_as_ m A) (fl A s' 0 281) q v') (fl s' A 0 281)) := by
      rw [M_as_at, mm_at, show X_ep (tx (X_ch (C_tx C)) n (nI q) p') = nI q from rfl]
    refine ⟨_, _, rfl, rfl, hans, ?_, hI, RH_c ?_ ?_ hH, RI_c ?_ ?_ hIm, ?_⟩
    · rw [M_as_ss, mm_ss]
      exact TR_cong hT (bk s')
    · rw [M_as_ps, mm_ps, M_as_ps]
    · rw [M_as_pa, mm_pa, M_as_pa]
    · rw [M_as_kp, mm_kp, M_as_kp]
    · rw [M_as_im, mm_im, M_as_im]
    · refine RX_c (m := m) ?_ ?_ ⟨n, hn, rfl, hm, hk⟩
      · rw [M_as_ty, mm_ty, M_as_ty]
      · rw [M_as_tx, mm_tx, M_as_tx]
