theorem fl_s0 (f g : Nat → Int32) (k : Nat) : upd (fl f g 0 k) k (f k) = fl f g 0 (k + 1) := by
  have e := fl_s f g 0 k
  rw [Nat.zero_add] at e
  exact e
theorem n_m1 {j : Nat} (h : 1 ≤ j) : nI j - (1 : Int32) = nI (j - 1) := pk_sub (b := 1) h
theorem e_restore {fu : Nat} {hi : TH} {r0 r1 r2 r3 r4 r5 now : TS} {a z : Nat} (ha : H_ol hi = nI a) (ha6 : a < 6) (hz : H_sz hi = nI z) (hz6 : z ≤ 6) (hz1 : 1 ≤ z) :
    f_X0_restore fu hi r0 r1 r2 r3 r4 r5 now = some (H_sz_ hi (nI (z - 1)), cpT now (RW r0 r1 r2 r3 r4 r5 ((a + (z - 1)) % 6))) := by
  have hq : (a + (z - 1)) % 6 < 6 := Nat.mod_lt _ (by omega)
  unfold f_X0_restore
  simp only [nm_d, e_copyFrom, bd_s]
  rw [hz, if_neg (show ¬ nI z ≤ 0 from n_nle (b := 0) (by omega) (by omega) (by omega)), n_m1 hz1]
  rw [show H_ol (H_sz_ hi (nI (z - 1))) = nI a from ha, show H_sz (H_sz_ hi (nI (z - 1))) = nI (z - 1) from rfl, n_a, rem6 (by omega), ix_n hq (by omega)]
  generalize (a + (z - 1)) % 6 = q at hq ⊢
  match q, hq with
  | 0, _ => rw [if_pos (by decide)]; rfl
  | 1, _ => rw [if_neg (by decide), if_pos (by decide)]; rfl
  | 2, _ => rw [if_neg (by decide), if_neg (by decide), if_pos (by decide)]; rfl
  | 3, _ => rw [if_neg (by decide), if_neg (by decide), if_neg (by decide), if_pos (by decide)]; rfl
  | 4, _ => rw [if_neg (by decide), if_neg (by decide), if_neg (by decide), if_neg (by decide), if_pos (by decide)]; rfl
  | 5, _ => rw [if_neg (by decide), if_neg (by decide), if_neg (by decide), if_neg (by decide), if_neg (by decide), if_pos (by decide)]; rfl
theorem op_undo {fu : Nat} (hfu : 2000 ≤ fu) : OP_undo RR fu := by
  intro C m h
  obtain ⟨hT, hI, ⟨a, z, ha, ha6, hz, hz6, hps, hrow⟩, hIm, hX⟩ := id h
  unfold f_X4_undo f_X5_undo
  simp only [nm_d]
  rw [hz, hps]
  by_cases hz0 : z = 0
  · subst hz0
    rw [if_neg (by decide), if_neg (by decide)]
    exact ⟨_, _, rfl, rfl, rfl, h.1, h.2.1, h.2.2.1, h.2.2.2.1, h.2.2.2.2⟩
  · rw [if_pos (show ¬ nI z = 0 from fun e => hz0 ((n_eq (b := 0) (by omega) (by omega)).mp e)), if_pos (show ¬ nI z = 0 from fun e => hz0 ((n_eq (b := 0) (by omega) (by omega)).mp e)), n_m1 (by omega), e_restore ha ha6 hz hz6 (by omega), bd_s]
    have hl := cp_loop2 (F := lb_X5_undo_22 fu) 281 (fun k => nI k) (fun k => M_ss_ (M_ps_ m (nI (z - 1))) (fl (fun k => M_pa m (281 * (z - 1) + k)) (M_ss m) 0 k)) (M_ss_ (M_ps_ m (nI (z - 1))) (fl (fun k => M_pa m (281 * (z - 1) + k)) (M_ss m) 0 281)) (fun rec => by
      unfold lb_X5_undo_22
      exact if_pos (n_le' (a := 281) (by omega) (by omega) (Nat.le_refl 281))) (fun rec k hk => by
      unfold lb_X5_undo_22
      rw [if_neg (show ¬ (281 : Int32) ≤ nI k from n_nle (a := 281) (by omega) (by omega) hk)]
      simp only [nm_d]
      rw [show M_ps (M_ss_ (M_ps_ m (nI (z - 1))) (fl (fun k => M_pa m (281 * (z - 1) + k)) (M_ss m) 0 k)) = nI (z - 1) from rfl, n_281, n_a, ix_n (by omega) (by omega), ix_n hk (by omega), n_p1, n_cl (by omega), n_cl (by omega)]
      have e := fl_s (fun k => M_pa m (281 * (z - 1) + k)) (M_ss m) 0 k
      rw [Nat.zero_add] at e
      rw [← e]
      rfl) fu 0 (by omega) (by omega)
    rw [fl_0] at hl
    rw [show lf_X5_undo_22 fu fu (0 : Int32) (M_ps_ m (nI (z - 1))) = _ from hl, bd_s]
    obtain ⟨g1, g2⟩ := hrow (z - 1) (by omega)
    exact ⟨_, _, rfl, rfl, rfl, TR_cong (TR_cp g1) (fun k hk => fl_in0 (f := fun k => M_pa m (281 * (z - 1) + k)) hk), TI_cp g2, ⟨a, z - 1, ha, ha6, rfl, by omega, rfl, fun i hi => hrow i (by omega)⟩, hIm, hX⟩

theorem e_keepL0 {fu : Nat} (m : TM) (hfu : 2000 ≤ fu) : lf_X5_keep_12 fu (0 : Int32) fu (0 : Int32) m = some (M_im_ m (fl (M_ss m) (M_im m) 0 281)) := by
  have hl := cp_loop2 (F := lb_X5_keep_12 fu (0 : Int32)) 281 (fun k => nI k) (fun k => M_im_ m (fl (M_ss m) (M_im m) 0 k)) (M_im_ m (fl (M_ss m) (M_im m) 0 281)) (fun rec => by
    unfold lb_X5_keep_12
    exact if_pos (n_le' (a := 281) (by omega) (by omega) (Nat.le_refl 281))) (fun rec k hk => by
    unfold lb_X5_keep_12
    rw [if_neg (show ¬ (281 : Int32) ≤ nI k from n_nle (a := 281) (by omega) (by omega) hk)]
    simp only [nm_d]
    rw [show (281 : Int32) * (0 : Int32) = nI 0 from by decide, n_a, ix_n hk (by omega), ix_n (by omega) (by omega), n_p1, n_cl (by omega), n_cl (by omega), ← fl_s (M_ss m) (M_im m) 0 k]
    rfl) fu 0 (by omega) (by omega)
  rw [fl_0] at hl
  exact hl
theorem e_backL0 {fu : Nat} (m : TM) (hfu : 2000 ≤ fu) : lf_X5_back_30 fu (0 : Int32) fu (0 : Int32) m = some (M_ss_ m (fl (fun k => M_im m (0 + k)) (M_ss m) 0 281)) := by
  have hl := cp_loop2 (F := lb_X5_back_30 fu (0 : Int32)) 281 (fun k => nI k) (fun k => M_ss_ m (fl (fun k => M_im m (0 + k)) (M_ss m) 0 k)) (M_ss_ m (fl (fun k => M_im m (0 + k)) (M_ss m) 0 281)) (fun rec => by
    unfold lb_X5_back_30
    exact if_pos (n_le' (a := 281) (by omega) (by omega) (Nat.le_refl 281))) (fun rec k hk => by
    unfold lb_X5_back_30
    rw [if_neg (show ¬ (281 : Int32) ≤ nI k from n_nle (a := 281) (by omega) (by omega) hk)]
    simp only [nm_d]
    rw [show (281 : Int32) * (0 : Int32) = nI 0 from by decide, n_a, ix_n (by omega) (by omega), ix_n hk (by omega), n_p1, n_cl (by omega), n_cl (by omega)]
    rw [← fl_s0 (fun k => M_im m (0 + k)) (M_ss m) k]
    rfl) fu 0 (by omega) (by omega)
  rw [fl_0] at hl
  exact hl

theorem e_keepL1 {fu : Nat} (m : TM) (hfu : 2000 ≤ fu) : lf_X5_keep_12 fu (1 : Int32) fu (0 : Int32) m = some (M_im_ m (fl (M_ss m) (M_im m) 281 281)) := by
  have hl := cp_loop2 (F := lb_X5_keep_12 fu (1 : Int32)) 281 (fun k => nI k) (fun k => M_im_ m (fl (M_ss m) (M_im m) 281 k)) (M_im_ m (fl (M_ss m) (M_im m) 281 281)) (fun rec => by
    unfold lb_X5_keep_12
    exact if_pos (n_le' (a := 281) (by omega) (by omega) (Nat.le_refl 281))) (fun rec k hk => by
    unfold lb_X5_keep_12
    rw [if_neg (show ¬ (281 : Int32) ≤ nI k from n_nle (a := 281) (by omega) (by omega) hk)]
    simp only [nm_d]
    rw [show (281 : Int32) * (1 : Int32) = nI 281 from by decide, n_a, ix_n hk (by omega), ix_n (by omega) (by omega), n_p1, n_cl (by omega), n_cl (by omega), ← fl_s (M_ss m) (M_im m) 281 k]
    rfl) fu 0 (by omega) (by omega)
  rw [fl_0] at hl
  exact hl
theorem e_backL1 {fu : Nat} (m : TM) (hfu : 2000 ≤ fu) : lf_X5_back_30 fu (1 : Int32) fu (0 : Int32) m = some (M_ss_ m (fl (fun k => M_im m (281 + k)) (M_ss m) 0 281)) := by
  have hl := cp_loop2 (F := lb_X5_back_30 fu (1 : Int32)) 281 (fun k => nI k) (fun k => M_ss_ m (fl (fun k => M_im m (281 + k)) (M_ss m) 0 k)) (M_ss_ m (fl (fun k => M_im m (281 + k)) (M_ss m) 0 281)) (fun rec => by
    unfold lb_X5_back_30
    exact if_pos (n_le' (a := 281) (by omega) (by omega) (Nat.le_refl 281))) (fun rec k hk => by
    unfold lb_X5_back_30
    rw [if_neg (show ¬ (281 : Int32) ≤ nI k from n_nle (a := 281) (by omega) (by omega) hk)]
    simp only [nm_d]
    rw [show (281 : Int32) * (1 : Int32) = nI 281 from by decide, n_a, ix_n (by omega) (by omega), ix_n hk (by omega), n_p1, n_cl (by omega), n_cl (by omega)]
    rw [← fl_s0 (fun k => M_im m (281 + k)) (M_ss m) k]
    rfl) fu 0 (by omega) (by omega)
  rw [fl_0] at hl
  exact hl
theorem c01 {p : Int32} (h : (0 : Int32).toInt ≤ p.toInt ∧ p.toInt ≤ (1 : Int32).toInt) : p = 0 ∨ p = 1 := by
  obtain ⟨h1, h2⟩ := h
  simp at h1 h2
  rw [i_eq, i_eq]
  simp
  omega
theorem e_isImage (fu : Nat) (p : Int32) : f_X5_isImage fu p = some (decide ((0 : Int32).toInt ≤ p.toInt ∧ p.toInt ≤ (1 : Int32).toInt)) := by
  unfold f_X5_isImage
  rw [e_in]
  rfl
theorem op_keep {fu : Nat} (hfu : 2000 ≤ fu) : OP_keep RR fu := by
  intro C m p h
  obtain ⟨hT, hI, hH, ⟨k0, k1, hk0, hk1, e0, e1, ek, g0, g1⟩, hX⟩ := id h
  unfold f_X4_keep f_X5_keep
  simp only [e_within, e_isImage, bd_s, bf, Bool.not_eq_false, nm_d, e_copyFrom]
  by_cases hc : (0 : Int32).toInt ≤ p.toInt ∧ p.toInt ≤ (1 : Int32).toInt
  · rw [decide_eq_true hc]; simp only [it_tt, it_ff, it_tf, it_ft, if_true, if_false]
    have nz : vp_nar .boolean (1 : Int32) = 1 := by decide
    rcases c01 hc with rfl | rfl
    · rw [ix_v (by decide) (by decide), if_pos rfl, ix_v (by decide) (by decide), e_keepL0 m hfu, bd_s, nz]
      refine ⟨_, _, rfl, rfl, hT.ac (k := 4) (by omega), hT, hI, hH, ⟨1, k1, by omega, hk1, rfl, e1, ?_, fun _ => ⟨TR_cong (TR_cp hT) (fun k hk => fl_in0 hk), TI_cp hI⟩, fun e => ?_⟩, hX⟩
      · show M_kp m ||| ((1 : Int32) <<< ((0 : Int32) &&& 31)) = _
        rw [ek]
        rcases (show (k0 = 0 ∨ k0 = 1) ∧ (k1 = 0 ∨ k1 = 1) by omega) with ⟨rfl | rfl, rfl | rfl⟩ <;> decide
      · obtain ⟨a1, a2⟩ := g1 e
        exact ⟨TR_cong a1 (fun k hk => fl_out (by omega)), a2⟩
    · rw [ix_v (by decide) (by decide), if_neg (by decide), if_pos rfl, ix_v (by decide) (by decide), e_keepL1 m hfu, bd_s, nz]
      refine ⟨_, _, rfl, rfl, hT.ac (k := 4) (by omega), hT, hI, hH, ⟨k0, 1, hk0, by omega, e0, rfl, ?_, fun e => ?_, fun _ => ⟨TR_cong (TR_cp hT) (fun k hk => fl_in hk), TI_cp hI⟩⟩, hX⟩
      · show M_kp m ||| ((1 : Int32) <<< ((1 : Int32) &&& 31)) = _
        rw [ek]
        rcases (show (k0 = 0 ∨ k0 = 1) ∧ (k1 = 0 ∨ k1 = 1) by omega) with ⟨rfl | rfl, rfl | rfl⟩ <;> decide
      · obtain ⟨a1, a2⟩ := g0 e
        exact ⟨TR_cong a1 (fun k hk => fl_out (by omega)), a2⟩
  · rw [decide_eq_false hc]; simp only [it_tt, it_ff, it_tf, it_ft, if_true, if_false]
    exact ⟨_, _, rfl, rfl, rfl, h.1, h.2.1, h.2.2.1, h.2.2.2.1, h.2.2.2.2⟩
theorem op_back {fu : Nat} (hfu : 2000 ≤ fu) : OP_back RR fu := by
  intro C m p h
  obtain ⟨hT, hI, hH, ⟨k0, k1, hk0, hk1, e0, e1, ek, g0, g1⟩, hX⟩ := id h
  unfold f_X4_back f_X5_back
  simp only [e_within, e_isImage, bd_s, bf, Bool.not_eq_false, nm_d, e_copyFrom]
  by_cases hc : (0 : Int32).toInt ≤ p.toInt ∧ p.toInt ≤ (1 : Int32).toInt
  · rw [decide_eq_true hc]; simp only [it_tt, it_ff, it_tf, it_ft, if_true, if_false]
    obtain ⟨h', q0, q1, q2, q3, q4, q5, pa', ps', s1, s2, hH'⟩ := r_save hfu hH hT hI
    rcases c01 hc with rfl | rfl
    · rw [ix_v (by decide) (by decide), ek, show C_kp C (0 : Int32).toNatClampNeg = nI k0 from e0]
      by_cases z : k0 = 0
      · subst z
        rw [if_neg (by decide), if_neg (by rcases (show k1 = 0 ∨ k1 = 1 by omega) with rfl | rfl <;> decide)]
        exact ⟨_, _, rfl, rfl, rfl, h.1, h.2.1, h.2.2.1, h.2.2.2.1, h.2.2.2.2⟩
      · have z1 : k0 = 1 := by omega
        subst z1
        rw [if_pos (by decide), if_pos (by rcases (show k1 = 0 ∨ k1 = 1 by omega) with rfl | rfl <;> decide), s1, bd_s, ix_v (by decide) (by decide), if_pos rfl, s2, bd_s, e_backL0 _ hfu, bd_s]
        obtain ⟨a1, a2⟩ := g0 rfl
        have t1 : TR (cpT (C_now C) (C_i0 C)) (fl (fun k => M_im m (0 + k)) (M_ss m) 0 281) := TR_cong (TR_cp a1) (fun k hk => by rw [fl_in0 hk, Nat.zero_add])
        exact ⟨_, _, rfl, rfl, t1.ac (k := 4) (by omega), t1, TI_cp a2, hH', ⟨1, k1, by omega, hk1, e0, e1, ek, g0, g1⟩, hX⟩
    · rw [ix_v (by decide) (by decide), ek, show C_kp C (1 : Int32).toNatClampNeg = nI k1 from e1]
      by_cases z : k1 = 0
      · subst z
        rw [if_neg (by decide), if_neg (by rcases (show k0 = 0 ∨ k0 = 1 by omega) with rfl | rfl <;> decide)]
        exact ⟨_, _, rfl, rfl, rfl, h.1, h.2.1, h.2.2.1, h.2.2.2.1, h.2.2.2.2⟩
      · have z1 : k1 = 1 := by omega
        subst z1
        rw [if_pos (by decide), if_pos (by rcases (show k0 = 0 ∨ k0 = 1 by omega) with rfl | rfl <;> decide), s1, bd_s, ix_v (by decide) (by decide), if_neg (by decide), if_pos rfl, s2, bd_s, e_backL1 _ hfu, bd_s]
        obtain ⟨a1, a2⟩ := g1 rfl
        have t1 : TR (cpT (C_now C) (C_i1 C)) (fl (fun k => M_im m (281 + k)) (M_ss m) 0 281) := TR_cong (TR_cp a1) (fun k hk => fl_in0 hk)
        exact ⟨_, _, rfl, rfl, t1.ac (k := 4) (by omega), t1, TI_cp a2, hH', ⟨k0, 1, hk0, by omega, e0, e1, ek, g0, g1⟩, hX⟩
  · rw [decide_eq_false hc]; simp only [it_tt, it_ff, it_tf, it_ft, if_true, if_false]
    exact ⟨_, _, rfl, rfl, rfl, h.1, h.2.1, h.2.2.1, h.2.2.2.1, h.2.2.2.2⟩
