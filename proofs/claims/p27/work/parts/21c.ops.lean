/-! trains -/
theorem k_pass {fu : Nat} {u : TS} {v : TV} {g : Nat → Int32} {N K A : Nat} {p q : Int32} (hI : TI u) (hSI : SI u) (hN : S_sl u = nI N) (hN1 : 10 ≤ N) (hN2 : N ≤ 60) (hK : S_nu u 0 = nI K) (hK1 : 1 ≤ K) (hK2 : K ≤ 20) (hA : S_nu u 2 = nI A) (hA1 : 1 ≤ A) (hA2 : A ≤ 5) (hp : rg p 1 200) (hq : rg q 1 30) (hv : LK v u N K A g) (hfu : 2000 ≤ fu) :
    ∃ u' v' g', f_X4_passTrain fu v u p q = some (v', u') ∧ TI u' ∧ SI u' ∧ S_sl u' = S_sl u ∧ S_nu u' = S_nu u ∧ S_ac u' 4 = S_ac u 4 + 1 ∧ LK v' u' N K A g' := by
  obtain ⟨v1, v2, v3, v4⟩ := hv
  have hcar := one_car hI hN1 hN2 v4
  obtain ⟨F, lo1, hF⟩ := r_findLoads (fu := fu) (v := v) (u := u) (b := hgB u g) (f0 := l0 (hgB u g)) hN hN1 hN2 (fun t ht => rfl) v2 hcar hfu
  have hLr : ∀ k, k < N → rg (gl (hgB u g) N (l0 (hgB u g)) N k) 0 1000 := fun k hk => by
    obtain ⟨x1, x2⟩ := gl_rg (b := hgB u g) (N := N) (f0 := l0 (hgB u g)) (by omega) (fun t ht => rfl) N (Nat.le_refl N) k hk
    unfold rg
    omega
  generalize gl (hgB u g) N (l0 (hgB u g)) N = L at hF hLr
  have c1 := c_pass (fu := fu) (u := u) (v := V_lo_ v F) (N := N) (b := hgB u g) (L := L) (p := p) (q := q) hN hN2 hF v2 hfu
  have i1 : TI (pU u (hgB u g) L p q (V_od v) N) := TI_pass hI hN2 hLr hp hq
  have j1 : SI (pU u (hgB u g) L p q (V_od v) N) := SI_pass hSI hN hN2
  have hPT : f_X4_passTrain fu v u p q = bd (f_X2_look fu (V_lo_ v F) (ac3 (pU u (hgB u g) L p q (V_od v) N) (lst (V_od v)) (p * q))) fun (o : TV) => some (o, ac3 (pU u (hgB u g) L p q (V_od v) N) (lst (V_od v)) (p * q)) := by
    unfold f_X4_passTrain
    rw [lo1, bd_s, c1, bd_s]
    simp only [nm_d]
    rw [e_lost, bd_s]
    rfl
  have i5 : TI (ac3 (pU u (hgB u g) L p q (V_od v) N) (lst (V_od v)) (p * q)) := TI_ac i1
  obtain ⟨f', e1, hf⟩ := r_look (fu := fu) (v := V_lo_ v F) i5 hN hN1 hN2 hK hK1 hK2 hA hA1 hA2 hfu
  rw [hPT, e1, bd_s]
  refine ⟨_, _, f', rfl, i5, SI_ac3 j1, rfl, rfl, ?_, LK_of hf hf⟩
  rw [ac3_4]
  show upd (S_ac u) 0 (pA u (hgB u g) L p q (V_od v) N) 4 + 1 = S_ac u 4 + 1
  rw [pk_un (k := 0) (j := 4) (by omega)]
theorem k_trains {fu T : Nat} {N K A : Nat} {p q c : Int32} (hT : T ≤ 10000) (hN1 : 10 ≤ N) (hN2 : N ≤ 60) (hK1 : 1 ≤ K) (hK2 : K ≤ 20) (hA1 : 1 ≤ A) (hA2 : A ≤ 5) (hp : rg p 1 200) (hq : rg q 1 30) (hc : rg c 1 50) (hfu : 2000 ≤ fu) : ∀ (n k : Nat) (u : TS) (v : TV) (g : Nat → Int32), k ≤ 50 → 50 - k < n → TI u → SI u → rg (S_ac u 4) 0 ((T + k : Nat) : Int) → S_sl u = nI N → S_nu u 0 = nI K → S_nu u 2 = nI A → LK v u N K A g →
    ∃ (k' : Nat) (u' : TS) (v' : TV), lq_3 (lb_X4_trains_56 fu p q c) n (nI k) u v = some (nI k', u', v') ∧ k' ≤ 50 ∧ TI u' ∧ SI u' ∧ rg (S_ac u' 4) 0 ((T + 50 : Nat) : Int) := by
  intro n
  induction n with
  | zero => intro k u v g h1 h2; omega
  | succ n ih =>
    intro k u v g hk hn hI hSI h4 hN hK hA hv
    show ∃ (k' : Nat) (u' : TS) (v' : TV), lb_X4_trains_56 fu p q c (lq_3 (lb_X4_trains_56 fu p q c) n) (nI k) u v = some (nI k', u', v') ∧ k' ≤ 50 ∧ TI u' ∧ SI u' ∧ rg (S_ac u' 4) 0 ((T + 50 : Nat) : Int)
    generalize lq_3 (lb_X4_trains_56 fu p q c) n = rc1 at ih ⊢
    unfold lb_X4_trains_56
    simp only [nm_d]
    obtain ⟨z1, z2⟩ := h4
    by_cases c1 : c ≤ nI k
    · rw [if_pos c1]
      exact ⟨k, u, v, rfl, hk, hI, hSI, z1, by omega⟩
    · rw [if_neg c1]
      obtain ⟨d1, d2⟩ := hc
      rw [i_le, n_ti (by omega)] at c1
      by_cases c2 : (3 : Int32) ≤ V_od v
      · rw [if_pos c2]
        exact ⟨k, u, v, rfl, hk, hI, hSI, z1, by omega⟩
      · rw [if_neg c2]
        obtain ⟨u1, v1, g1, e1, i1, j1, eN, eK, e4, h1⟩ := k_pass (fu := fu) hI hSI hN hN1 hN2 hK hK1 hK2 hA hA1 hA2 hp hq hv hfu
        rw [e1, bd_s, n_p1]
        have r4 : rg (S_ac u1 4) 0 ((T + (k + 1) : Nat) : Int) := by
          unfold rg
          rw [e4, i_ad rfl z_1 (by omega) (by omega)]
          omega
        exact ih (k + 1) u1 v1 g1 (by omega) (by omega) i1 j1 r4 (eN.trans hN) (by rw [eK]; exact hK) (by rw [eK]; exact hA) h1
theorem d_trains {fu T z : Nat} {hi : TH} {sv : TV} {r0 r1 r2 r3 r4 r5 now : TS} {p q c : Int32} (hT : T ≤ 10000) (hfu : 2000 ≤ fu) (hG : GOOD T now) (hH : HI T hi (RW r0 r1 r2 r3 r4 r5) z) :
    ∃ o, f_X4_trains fu now sv hi r0 r1 r2 r3 r4 r5 p q c = some o ∧ ST T z now (hi, r0, r1, r2, r3, r4, r5) o.1 o.2.1 o.2.2.2 := by
  obtain ⟨hI, hSI, h4⟩ := id hG
  unfold f_X4_trains
  rw [e_isTrain]
  simp only [e_within, bd_s, bf, Bool.not_eq_false, nm_d]
  by_cases hp : (1 : Int32).toInt ≤ p.toInt ∧ p.toInt ≤ (200 : Int32).toInt
  · by_cases hq : (1 : Int32).toInt ≤ q.toInt ∧ q.toInt ≤ (30 : Int32).toInt
    · rw [decide_eq_true hp, decide_eq_true hq, if_neg (show ¬ (true && true) = false by decide)]
      by_cases hc : (1 : Int32).toInt ≤ c.toInt ∧ c.toInt ≤ (50 : Int32).toInt
      · rw [decide_eq_true hc, if_pos rfl]
        obtain ⟨N, K, Hh, A, eN, hN1, hN2, eK, hK1, hK2, eH, hH1, eA, hA1, hA2⟩ := hI.nat
        obtain ⟨f, e1, hf⟩ := r_look (fu := fu) (v := sv) hI eN hN1 hN2 eK hK1 hK2 eA hA1 hA2 hfu
        have hL : LK (lk sv now N A f) now N K A f := LK_of hf hf
        rw [e1, bd_s]
        by_cases c3 : V_od (lk sv now N A f) < 3
        · rw [if_pos c3]
          obtain ⟨h', q0, q1, q2, q3, q4, q5, s1, hH', hT'⟩ := h_save (fu := fu) hH hG
          obtain ⟨k', u', v', k1, k2, k3, k4, k5⟩ := k_trains (fu := fu) (T := T) (N := N) (K := K) (A := A) (p := p) (q := q) (c := c) hT hN1 hN2 hK1 hK2 hA1 hA2 hp hq hc hfu fu 0 now (lk sv now N A f) f (by omega) (by omega) hI hSI h4 eN eK eA hL
          rw [s1, bd_s, show lf_X4_trains_56 fu p q c fu (0 : Int32) now (lk sv now N A f) = _ from k1, bd_s]
          refine ⟨_, rfl, Or.inr ⟨?_, ⟨k3, k4, k5⟩, hH', hT'⟩⟩
          show -50000 < (nI k').toInt
          rw [n_ti (by omega)]
          omega
        · rw [if_neg c3]
          exact ⟨_, rfl, Or.inl ⟨er_2, rfl, rfl⟩⟩
      · rw [decide_eq_false hc, if_neg (by decide)]
        exact ⟨_, rfl, Or.inl ⟨er_1, rfl, rfl⟩⟩
    · rw [decide_eq_false hq, Bool.and_false, if_pos rfl]
      exact ⟨_, rfl, Or.inl ⟨er_1, rfl, rfl⟩⟩
  · rw [decide_eq_false hp, Bool.false_and, if_pos rfl]
    exact ⟨_, rfl, Or.inl ⟨er_1, rfl, rfl⟩⟩
/-! images, undo -/
def KI (T : Nat) (kp : Nat → Int32) (i0 i1 : TS) : Prop := ∃ k0 k1 : Nat, k0 ≤ 1 ∧ k1 ≤ 1 ∧ kp 0 = nI k0 ∧ kp 1 = nI k1 ∧ (k0 = 1 → GOOD T i0) ∧ (k1 = 1 → GOOD T i1)
theorem KI.up {T T' : Nat} {kp : Nat → Int32} {i0 i1 : TS} (h : KI T kp i0 i1) (hT : T ≤ T') : KI T' kp i0 i1 := by
  obtain ⟨k0, k1, h1, h2, h3, h4, h5, h6⟩ := h
  exact ⟨k0, k1, h1, h2, h3, h4, fun e => (h5 e).up hT, fun e => (h6 e).up hT⟩
theorem d_back {fu T z : Nat} {hi : TH} {kp : Nat → Int32} {i0 i1 r0 r1 r2 r3 r4 r5 now : TS} {p : Int32} (hG : GOOD T now) (hH : HI T hi (RW r0 r1 r2 r3 r4 r5) z) (hK : KI T kp i0 i1) :
    ∃ o, f_X4_back fu now hi r0 r1 r2 r3 r4 r5 i0 i1 kp p = some o ∧ ST T z now (hi, r0, r1, r2, r3, r4, r5) o.1 o.2.1 o.2.2 := by
  obtain ⟨k0, k1, hk0, hk1, e0, e1, g0, g1⟩ := hK
  have lo : ∀ u : TS, GOOD T u → -50000 < (S_ac (cpT now u) 4).toInt := fun u h => by
    have h1 := (GOOD_cp (u := now) h).2.2.1
    omega
  unfold f_X4_back
  simp only [e_within, bd_s, bf, Bool.not_eq_false, nm_d, e_copyFrom]
  by_cases hc : (0 : Int32).toInt ≤ p.toInt ∧ p.toInt ≤ (1 : Int32).toInt
  · rw [decide_eq_true hc]; simp only [it_tt, it_ff, it_tf, it_ft, if_true, if_false]
    obtain ⟨h', q0, q1, q2, q3, q4, q5, s1, hH', hT'⟩ := h_save (fu := fu) hH hG
    rcases c01 hc with rfl | rfl
    · rw [ix_v (by decide) (by decide), show kp (0 : Int32).toNatClampNeg = nI k0 from e0]
      by_cases z : k0 = 0
      · subst z
        rw [if_neg (by decide)]
        exact ⟨_, rfl, Or.inl ⟨er_2, rfl, rfl⟩⟩
      · have z1 : k0 = 1 := by omega
        subst z1
        rw [if_pos (by decide), s1, bd_s, ix_v (by decide) (by decide), if_pos rfl]
        exact ⟨_, rfl, Or.inr ⟨lo i0 (g0 rfl), (GOOD_cp (g0 rfl)).up (Nat.le_add_right T 50), hH', hT'⟩⟩
    · rw [ix_v (by decide) (by decide), show kp (1 : Int32).toNatClampNeg = nI k1 from e1]
      by_cases z : k1 = 0
      · subst z
        rw [if_neg (by decide)]
        exact ⟨_, rfl, Or.inl ⟨er_2, rfl, rfl⟩⟩
      · have z1 : k1 = 1 := by omega
        subst z1
        rw [if_pos (by decide), s1, bd_s, ix_v (by decide) (by decide), if_neg (by decide), if_pos rfl]
        exact ⟨_, rfl, Or.inr ⟨lo i1 (g1 rfl), (GOOD_cp (g1 rfl)).up (Nat.le_add_right T 50), hH', hT'⟩⟩
  · rw [decide_eq_false hc]; simp only [it_tt, it_ff, it_tf, it_ft, if_true, if_false]
    exact ⟨_, rfl, Or.inl ⟨er_1, rfl, rfl⟩⟩
theorem d_keep {fu T : Nat} {kp : Nat → Int32} {i0 i1 now : TS} {j : Nat} (hj : j < 2) (hG : GOOD T now) (hK : KI T kp i0 i1) :
    ∃ i0' i1' kp', f_X4_keep fu now i0 i1 kp (nI j) = some (S_ac now 4, i0', i1', kp') ∧ KI T kp' i0' i1' ∧ kp' j = nI 1 := by
  obtain ⟨k0, k1, hk0, hk1, e0, e1, g0, g1⟩ := hK
  have nz : vp_nar .boolean (1 : Int32) = 1 := by decide
  unfold f_X4_keep
  simp only [e_within, bd_s, bf, Bool.not_eq_false, nm_d, e_copyFrom]
  rcases (show j = 0 ∨ j = 1 by omega) with rfl | rfl
  · rw [decide_eq_true (show (0 : Int32).toInt ≤ (nI 0).toInt ∧ (nI 0).toInt ≤ (1 : Int32).toInt by decide), if_pos rfl, ix_n (by omega) (by omega), if_pos (show nI 0 = (0 : Int32) from rfl), ix_n (by omega) (by omega), n_cl (by omega), nz]
    exact ⟨_, _, _, rfl, ⟨1, k1, by omega, hk1, pk_us, (pk_un (by omega)).trans e1, fun _ => GOOD_cp hG, g1⟩, pk_us⟩
  · rw [decide_eq_true (show (0 : Int32).toInt ≤ (nI 1).toInt ∧ (nI 1).toInt ≤ (1 : Int32).toInt by decide), if_pos rfl, ix_n (by omega) (by omega), if_neg (show ¬ nI 1 = (0 : Int32) by decide), if_pos (show nI 1 = (1 : Int32) from rfl), ix_n (by omega) (by omega), n_cl (by omega), nz]
    exact ⟨_, _, _, rfl, ⟨k0, 1, hk0, by omega, (pk_un (by omega)).trans e0, pk_us, g0, fun _ => GOOD_cp hG⟩, pk_us⟩
theorem d_undo0 {fu : Nat} {hi : TH} {r0 r1 r2 r3 r4 r5 now : TS} (hz : H_sz hi = nI 0) : f_X4_undo fu now hi r0 r1 r2 r3 r4 r5 = some ((-100002 : Int32), now, hi) := by
  unfold f_X4_undo
  simp only [nm_d]
  rw [hz, if_neg (show ¬ ¬ nI 0 = 0 by decide)]
theorem d_undo {fu a z : Nat} {hi : TH} {r0 r1 r2 r3 r4 r5 now : TS} (ha : H_ol hi = nI a) (ha6 : a < 6) (hz : H_sz hi = nI z) (hz6 : z ≤ 6) (hz1 : 1 ≤ z) :
    f_X4_undo fu now hi r0 r1 r2 r3 r4 r5 = some (nI (z - 1), cpT now (RW r0 r1 r2 r3 r4 r5 ((a + (z - 1)) % 6)), H_sz_ hi (nI (z - 1))) := by
  unfold f_X4_undo
  simp only [nm_d]
  rw [hz, if_pos (show ¬ nI z = 0 from fun e => by have := (n_eq (b := 0) (by omega) (by omega)).mp e; omega), e_restore ha ha6 hz hz6 hz1, bd_s]
  rfl
