theorem mm_ps (m : TM) (s : Nat → Int32) (p : Nat) (v : Int32) : M_ps (mm m s p v) = M_ps m := rfl
theorem mm_pa (m : TM) (s : Nat → Int32) (p : Nat) (v : Int32) : M_pa (mm m s p v) = M_pa m := rfl
theorem mm_kp (m : TM) (s : Nat → Int32) (p : Nat) (v : Int32) : M_kp (mm m s p v) = M_kp m := rfl
theorem mm_im (m : TM) (s : Nat → Int32) (p : Nat) (v : Int32) : M_im (mm m s p v) = M_im m := rfl
theorem RH_c {hi : TH} {w : Nat → TS} {m M : TM} (e1 : M_ps M = M_ps m) (e2 : M_pa M = M_pa m) (h : RH hi w m) : RH hi w M := by
  unfold RH at h ⊢
  rw [e1, e2]
  exact h
theorem RI_c {kp : Nat → Int32} {i0 i1 : TS} {m M : TM} (e1 : M_kp M = M_kp m) (e2 : M_im M = M_im m) (h : RI kp i0 i1 m) : RI kp i0 i1 M := by
  unfold RI at h ⊢
  rw [e1, e2]
  exact h
theorem RX_c {t : TX} {m M : TM} (e1 : M_ty M = M_ty m) (e2 : M_tx M = M_tx m) (h : RX t m) : RX t M := by
  unfold RX at h ⊢
  rw [e1, e2]
  exact h
theorem at_mm (m : TM) (A : Nat → Int32) : M_at_ (M_as_ m A) (0 : Int32) = mm (M_as_ m A) (M_ss m) 0 (M_nu m) := rfl
theorem op_load {fu : Nat} (hfu : 2000 ≤ fu) : OP_load RR fu := by
  intro C m h
  obtain ⟨hT, hI, hH, hIm, hRX⟩ := id h
  obtain ⟨n, hn, hx, hm, hk⟩ := id hRX
  obtain ⟨N, -, -, -, eN, hN1, hN2, -⟩ := hI.nat
  unfold f_X4_load f_X5_load f_X3_readInto
  rw [e_copyFrom, bd_s, nm_d, e_putAside m hfu, bd_s, nm_d]
  have bk : ∀ s1 k, k < 281 → fl (fl (M_ss m) (M_as m) 0 281) s1 0 281 k = M_ss m k := fun s1 k hk => back_eq (M_ss m) s1 (M_as m) k hk
  generalize fl (M_ss m) (M_as m) 0 281 = A at bk ⊢
  have hX : HX (X_ch (C_tx C)) n (M_as_ m A) := ⟨hn, by rw [M_as_ty]; exact hm, by rw [M_as_tx]; exact hk⟩
  have et : X_po_ (C_tx C) (0 : Int32) = tx (X_ch (C_tx C)) n (X_ep (C_tx C)) 0 := by
    show (X_ch (C_tx C), X_ln (C_tx C), X_ep (C_tx C), (0 : Int32)) = _
    rw [hx]
    rfl
  rw [et, at_mm]
  rcases r_read (fu := fu) (N := N) hX hN1 hN2 hfu fu fu 0 0 (X_ep (C_tx C)) (M_nu m) (cpT (C_tr C) (C_now C)) (M_ss m) (by omega) (by omega) (by omega) (by omega) (TR_cp hT) (TI_cp hI) eN with ⟨k', p', e', v', u', s', k1, k2, k3, k4, k5⟩ | ⟨q, p', k', v', u', s', k1, k2⟩
  · sorry
  · sorry
