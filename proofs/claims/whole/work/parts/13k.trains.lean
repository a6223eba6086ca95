/-! trains -/
theorem e_order2 {fu : Nat} {m : TM} {u : TS} {v : TV} {N K A : Nat} (hT : TR u (M_ss m)) (hI : TI u) (hN : S_sl u = nI N) (hN1 : 10 ≤ N) (hN2 : N ≤ 60) (hA : S_nu u 2 = nI A) (hA1 : 1 ≤ A) (hA2 : A ≤ 5) (hv : LK v u N K A (M_ra m)) (hfu : 2000 ≤ fu) : f_X5_order fu m = some (V_od v) := by
  rw [e_order hT hI hN hN1 hN2 hA hA1 hA2 hfu, hv.2.2.1]
theorem od_3 (u : TS) (x : Int32) : od u x = 3 ∨ od u x < 3 := by
  unfold od
  by_cases h1 : S_nu u 3 < x
  · rw [if_pos h1]
    by_cases h2 : S_nu u 4 < x
    · rw [if_pos h2]
      by_cases h3 : S_nu u 5 < x
      · rw [if_pos h3]
        exact Or.inl rfl
      · rw [if_neg h3]
        exact Or.inr (by decide)
    · rw [if_neg h2]
      exact Or.inr (by decide)
  · rw [if_neg h1]
    exact Or.inr (by decide)
theorem r_trains {fu : Nat} {N K A : Nat} {p q c : Int32} (hN1 : 10 ≤ N) (hN2 : N ≤ 60) (hK1 : 1 ≤ K) (hK2 : K ≤ 20) (hA1 : 1 ≤ A) (hA2 : A ≤ 5) (hp : rg p 1 200) (hq : rg q 1 30) (hc : rg c 1 50) (hfu : 2000 ≤ fu) : ∀ (n k : Nat) (u : TS) (v : TV) (m : TM), k ≤ 50 → 50 - k < n → TR u (M_ss m) → TI u → S_sl u = nI N → S_nu u 0 = nI K → S_nu u 2 = nI A → LK v u N K A (M_ra m) →
    ∃ (x : Int32) (u' : TS) (v' : TV) (s' l' g' : Nat → Int32), lq_3 (lb_X4_trains_56 fu p q c) n (nI k) u v = some (x, u', v') ∧ lq_3 (lb_X5_trains_47 fu p q c) n (V_od v) (nI k) m = some (x, M_ra_ (M_lo_ (M_ss_ m s') l') g') ∧ TR u' s' ∧ TI u' := by
  intro n
  induction n with
  | zero => intro k u v m h1 h2; omega
  | succ n ih =>
    intro k u v m hk hn hT hI hN hK hA hv
    show ∃ (x : Int32) (u' : TS) (v' : TV) (s' l' g' : Nat → Int32), lb_X4_trains_56 fu p q c (lq_3 (lb_X4_trains_56 fu p q c) n) (nI k) u v = some (x, u', v') ∧ lb_X5_trains_47 fu p q c (lq_3 (lb_X5_trains_47 fu p q c) n) (V_od v) (nI k) m = some (x, M_ra_ (M_lo_ (M_ss_ m s') l') g') ∧ TR u' s' ∧ TI u'
    generalize lq_3 (lb_X4_trains_56 fu p q c) n = rc1 at ih ⊢
    generalize lq_3 (lb_X5_trains_47 fu p q c) n = rc2 at ih ⊢
    unfold lb_X4_trains_56 lb_X5_trains_47
    simp only [nm_d]
    by_cases c1 : c ≤ nI k
    · rw [if_pos c1, if_pos c1]
      exact ⟨nI k, u, v, M_ss m, M_lo m, M_ra m, rfl, rfl, hT, hI⟩
    · rw [if_neg c1, if_neg c1]
      obtain ⟨d1, d2⟩ := hc
      rw [i_le, n_ti (by omega)] at c1
      by_cases c2 : (3 : Int32) ≤ V_od v
      · rw [if_pos c2, if_pos c2]
        exact ⟨nI k, u, v, M_ss m, M_lo m, M_ra m, rfl, rfl, hT, hI⟩
      · rw [if_neg c2, if_neg c2]
        obtain ⟨u1, v1, s1, l1, g1, e1, e2, t1, i1, eN, eK, h1⟩ := r_pass (fu := fu) hT hI hN hN1 hN2 hK hK1 hK2 hA hA1 hA2 hp hq hv hfu
        rw [e1, e2, bd_s, bd_s, e_order2 (fu := fu) (m := M_ra_ (M_lo_ (M_ss_ m s1) l1) g1) (K := K) t1 i1 (eN.trans hN) hN1 hN2 (by rw [eK]; exact hA) hA1 hA2 h1 hfu, bd_s, n_p1]
        obtain ⟨x, u', v', s', l', g', k1, k2, k3, k4⟩ := ih (k + 1) u1 v1 (M_ra_ (M_lo_ (M_ss_ m s1) l1) g1) (by omega) (by omega) t1 i1 (eN.trans hN) (by rw [eK]; exact hK) (by rw [eK]; exact hA) h1
        exact ⟨x, u', v', s', l', g', k1, k2, k3, k4⟩
theorem e_isTrain (fu : Nat) (p q : Int32) : f_X4_isTrain fu p q = some (decide ((1 : Int32).toInt ≤ p.toInt ∧ p.toInt ≤ (200 : Int32).toInt) && decide ((1 : Int32).toInt ≤ q.toInt ∧ q.toInt ≤ (30 : Int32).toInt)) := by
  unfold f_X4_isTrain
  simp only [e_within, bd_s, jn_e]
  cases decide ((1 : Int32).toInt ≤ p.toInt ∧ p.toInt ≤ (200 : Int32).toInt) <;> cases decide ((1 : Int32).toInt ≤ q.toInt ∧ q.toInt ≤ (30 : Int32).toInt) <;> rfl
theorem e_isTrain5 (fu : Nat) (p q : Int32) : f_X5_isTrain fu p q = some (decide ((1 : Int32).toInt ≤ p.toInt ∧ p.toInt ≤ (200 : Int32).toInt) && decide ((1 : Int32).toInt ≤ q.toInt ∧ q.toInt ≤ (30 : Int32).toInt)) := by
  unfold f_X5_isTrain
  simp only [e_in, bd_s, jn_e]
  cases decide ((1 : Int32).toInt ≤ p.toInt ∧ p.toInt ≤ (200 : Int32).toInt) <;> cases decide ((1 : Int32).toInt ≤ q.toInt ∧ q.toInt ≤ (30 : Int32).toInt) <;> rfl
theorem op_trains {fu : Nat} (hfu : 2000 ≤ fu) : OP_trains RR fu := by
  intro C m p q c h
  obtain ⟨hT, hI, hH, hIm, hX⟩ := id h
  unfold f_X4_trains f_X5_trains
  rw [e_isTrain, e_isTrain5]
  simp only [e_within, e_in, bd_s, bf, Bool.not_eq_false, nm_d]
  by_cases hp : (1 : Int32).toInt ≤ p.toInt ∧ p.toInt ≤ (200 : Int32).toInt
  · by_cases hq : (1 : Int32).toInt ≤ q.toInt ∧ q.toInt ≤ (30 : Int32).toInt
    · rw [decide_eq_true hp, decide_eq_true hq, if_neg (show ¬ (true && true) = false by decide), if_neg (show ¬ (true && true) = false by decide)]
      by_cases hc : (1 : Int32).toInt ≤ c.toInt ∧ c.toInt ≤ (50 : Int32).toInt
      · rw [decide_eq_true hc, if_pos rfl, if_pos rfl]
        obtain ⟨N, K, Hh, A, eN, hN1, hN2, eK, hK1, hK2, eH, hH1, eA, hA1, hA2⟩ := hI.nat
        obtain ⟨f, e1, hf⟩ := r_look (v := C_sv C) hI eN hN1 hN2 eK hK1 hK2 eA hA1 hA2 hfu
        obtain ⟨g, e2, hgg⟩ := r_rail hT hI eN hN1 hN2 eK hK1 hK2 hfu
        have hL : LK (lk (C_sv C) (C_now C) N A f) (C_now C) N K A g := LK_of hf hgg
        rw [e1, e2, bd_s, bd_s, e_order2 (fu := fu) (m := M_ra_ m g) (v := lk (C_sv C) (C_now C) N A f) (K := K) hT hI eN hN1 hN2 eA hA1 hA2 hL hfu, bd_s]
        by_cases c3 : V_od (lk (C_sv C) (C_now C) N A f) = 3
        · rw [if_neg (show ¬ V_od (lk (C_sv C) (C_now C) N A f) < 3 by rw [c3]; decide), if_neg (fun e => e c3)]
          exact ⟨_, _, rfl, rfl, rfl, h.1, h.2.1, h.2.2.1, h.2.2.2.1, h.2.2.2.2⟩
        · have c4 : V_od (lk (C_sv C) (C_now C) N A f) < 3 := by
            rw [hL.2.2.1] at c3 ⊢
            rcases od_3 (C_now C) (wf g N A N).2 with e | e
            · exact absurd e c3
            · exact e
          rw [if_pos c4, if_pos c3]
          obtain ⟨h', q0, q1, q2, q3, q4, q5, pa', ps', s1, s2, hH'⟩ := r_save (m := M_ra_ m g) hfu hH hT hI
          obtain ⟨x, u', v', s', l', g', k1, k2, k3, k4⟩ := r_trains (fu := fu) (N := N) (K := K) (A := A) (p := p) (q := q) (c := c) hN1 hN2 hK1 hK2 hA1 hA2 hp hq hc hfu fu 0 (C_now C) (lk (C_sv C) (C_now C) N A f) (M_ps_ (M_pa_ (M_ra_ m g) pa') ps') (by omega) (by omega) hT hI eN eK eA hL
          rw [s1, bd_s, show lf_X4_trains_56 fu p q c fu (0 : Int32) (C_now C) (lk (C_sv C) (C_now C) N A f) = _ from k1, bd_s, s2, bd_s, show lf_X5_trains_47 fu p q c fu (V_od (lk (C_sv C) (C_now C) N A f)) (0 : Int32) (M_ps_ (M_pa_ (M_ra_ m g) pa') ps') = _ from k2, bd_s]
          exact ⟨_, _, rfl, rfl, rfl, k3, k4, hH', hIm, hX⟩
      · rw [decide_eq_false hc, if_neg (by decide), if_neg (by decide)]
        exact ⟨_, _, rfl, rfl, rfl, h.1, h.2.1, h.2.2.1, h.2.2.2.1, h.2.2.2.2⟩
    · rw [decide_eq_false hq, Bool.and_false, if_pos rfl, if_pos rfl]
      exact ⟨_, _, rfl, rfl, rfl, h.1, h.2.1, h.2.2.1, h.2.2.2.1, h.2.2.2.2⟩
  · rw [decide_eq_false hp, Bool.false_and, if_pos rfl, if_pos rfl]
    exact ⟨_, _, rfl, rfl, rfl, h.1, h.2.1, h.2.2.1, h.2.2.2.1, h.2.2.2.2⟩
theorem r_until {fu : Nat} {N K A : Nat} {p q c : Int32} (hN1 : 10 ≤ N) (hN2 : N ≤ 60) (hK1 : 1 ≤ K) (hK2 : K ≤ 20) (hA1 : 1 ≤ A) (hA2 : A ≤ 5) (hp : rg p 1 200) (hq : rg q 1 30) (hfu : 2000 ≤ fu) : ∀ (n k : Nat) (u : TS) (v : TV) (m : TM), k ≤ 200 → 200 - k < n → TR u (M_ss m) → TI u → S_sl u = nI N → S_nu u 0 = nI K → S_nu u 2 = nI A → LK v u N K A (M_ra m) →
    ∃ (x : Int32) (u' : TS) (v' : TV) (s' l' g' : Nat → Int32), lq_3 (lb_X4_trainsUntil_41 fu p q c) n (nI k) u v = some (x, u', v') ∧ lq_3 (lb_X5_trainsUntil_37 fu p q c) n (nI k) (V_od v) m = some (x, V_od v', M_ra_ (M_lo_ (M_ss_ m s') l') g') := by
  intro n
  induction n with
  | zero => intro k u v m h1 h2; omega
  | succ n ih =>
    intro k u v m hk hn hT hI hN hK hA hv
    show ∃ (x : Int32) (u' : TS) (v' : TV) (s' l' g' : Nat → Int32), lb_X4_trainsUntil_41 fu p q c (lq_3 (lb_X4_trainsUntil_41 fu p q c) n) (nI k) u v = some (x, u', v') ∧ lb_X5_trainsUntil_37 fu p q c (lq_3 (lb_X5_trainsUntil_37 fu p q c) n) (nI k) (V_od v) m = some (x, V_od v', M_ra_ (M_lo_ (M_ss_ m s') l') g')
    generalize lq_3 (lb_X4_trainsUntil_41 fu p q c) n = rc1 at ih ⊢
    generalize lq_3 (lb_X5_trainsUntil_37 fu p q c) n = rc2 at ih ⊢
    unfold lb_X4_trainsUntil_41 lb_X5_trainsUntil_37
    simp only [nm_d]
    by_cases c1 : (200 : Int32) ≤ nI k
    · rw [if_pos c1]
      refine ⟨nI k, u, v, M_ss m, M_lo m, M_ra m, rfl, ?_⟩
      by_cases c2 : c ≤ V_od v
      · rw [if_pos c2]
        rfl
      · rw [if_neg c2, if_pos c1]
        rfl
    · rw [if_neg c1]
      have c9 := c1
      rw [i_le, n_ti (by omega), show (200 : Int32).toInt = 200 from rfl] at c9
      by_cases c2 : c ≤ V_od v
      · rw [if_pos c2, if_pos c2]
        exact ⟨nI k, u, v, M_ss m, M_lo m, M_ra m, rfl, rfl⟩
      · rw [if_neg c2, if_neg c2, if_neg c1]
        obtain ⟨u1, v1, s1, l1, g1, e1, e2, t1, i1, eN, eK, h1⟩ := r_pass (fu := fu) hT hI hN hN1 hN2 hK hK1 hK2 hA hA1 hA2 hp hq hv hfu
        rw [e1, e2, bd_s, bd_s, e_order2 (fu := fu) (m := M_ra_ (M_lo_ (M_ss_ m s1) l1) g1) (K := K) t1 i1 (eN.trans hN) hN1 hN2 (by rw [eK]; exact hA) hA1 hA2 h1 hfu, bd_s, n_p1]
        obtain ⟨x, u', v', s', l', g', k1, k2⟩ := ih (k + 1) u1 v1 (M_ra_ (M_lo_ (M_ss_ m s1) l1) g1) (by omega) (by omega) t1 i1 (eN.trans hN) (by rw [eK]; exact hK) (by rw [eK]; exact hA) h1
        exact ⟨x, u', v', s', l', g', k1, k2⟩
theorem cpT_nu {u v : TS} {k : Nat} (h : k < 8) : S_nu (cpT u v) k = S_nu v k := sb_cpy0 h
theorem op_trainsUntil {fu : Nat} (hfu : 2000 ≤ fu) : OP_trainsUntil RR fu := by
  intro C m p q c h
  obtain ⟨hT, hI, hH, hIm, hX⟩ := id h
  unfold f_X4_trainsUntil f_X5_trainsUntil
  rw [e_isTrain, e_isTrain5]
  simp only [e_within, e_in, bd_s, bf, Bool.not_eq_false, nm_d]
  by_cases hp : (1 : Int32).toInt ≤ p.toInt ∧ p.toInt ≤ (200 : Int32).toInt
  · by_cases hq : (1 : Int32).toInt ≤ q.toInt ∧ q.toInt ≤ (30 : Int32).toInt
    · rw [decide_eq_true hp, decide_eq_true hq, if_neg (show ¬ (true && true) = false by decide), if_neg (show ¬ (true && true) = false by decide)]
      by_cases hc : (1 : Int32).toInt ≤ c.toInt ∧ c.toInt ≤ (3 : Int32).toInt
      · rw [decide_eq_true hc, if_pos rfl, if_pos rfl]
        obtain ⟨N, K, Hh, A, eN, hN1, hN2, eK, hK1, hK2, eH, hH1, eA, hA1, hA2⟩ := hI.nat
        have tT : TR (cpT (C_tr C) (C_now C)) (M_ss m) := TR_cp hT
        have tI : TI (cpT (C_tr C) (C_now C)) := TI_cp hI
        have gK : S_nu (cpT (C_tr C) (C_now C)) 0 = nI K := (cpT_nu (by omega)).trans eK
        have gA : S_nu (cpT (C_tr C) (C_now C)) 2 = nI A := (cpT_nu (by omega)).trans eA
        obtain ⟨f, e1, hf⟩ := r_look (fu := fu) (v := C_ts C) tI eN hN1 hN2 gK hK1 hK2 gA hA1 hA2 hfu
        obtain ⟨g, e2, hgg⟩ := r_rail (fu := fu) (m := M_as_ m (fl (M_ss m) (M_as m) 0 281)) tT tI eN hN1 hN2 gK hK1 hK2 hfu
        have hL : LK (lk (C_ts C) (cpT (C_tr C) (C_now C)) N A f) (cpT (C_tr C) (C_now C)) N K A g := LK_of hf hgg
        rw [e_copyFrom, bd_s, e1, bd_s, e_putAside m hfu, bd_s, e2, bd_s, e_order2 (fu := fu) (m := M_ra_ (M_as_ m (fl (M_ss m) (M_as m) 0 281)) g) (v := lk (C_ts C) (cpT (C_tr C) (C_now C)) N A f) (K := K) tT tI eN hN1 hN2 gA hA1 hA2 hL hfu, bd_s]
        obtain ⟨x, u', v', s', l', g', k1, k2⟩ := r_until (fu := fu) (N := N) (K := K) (A := A) (p := p) (q := q) (c := c) hN1 hN2 hK1 hK2 hA1 hA2 hp hq hfu fu 0 (cpT (C_tr C) (C_now C)) (lk (C_ts C) (cpT (C_tr C) (C_now C)) N A f) (M_ra_ (M_as_ m (fl (M_ss m) (M_as m) 0 281)) g) (by omega) (by omega) tT tI eN gK gA hL
        rw [show lf_X4_trainsUntil_41 fu p q c fu (0 : Int32) (cpT (C_tr C) (C_now C)) (lk (C_ts C) (cpT (C_tr C) (C_now C)) N A f) = _ from k1, bd_s, show lf_X5_trainsUntil_37 fu p q c fu (0 : Int32) (V_od (lk (C_ts C) (cpT (C_tr C) (C_now C)) N A f)) (M_ra_ (M_as_ m (fl (M_ss m) (M_as m) 0 281)) g) = _ from k2, bd_s, e_putBack _ hfu, bd_s]
        have fin : TR (C_now C) (fl (fl (M_ss m) (M_as m) 0 281) s' 0 281) := TR_cong hT (back_eq _ _ _)
        by_cases c4 : V_od v' < c
        · rw [if_pos c4, if_neg (show ¬ c ≤ V_od v' by rw [i_le]; rw [i_lt] at c4; omega)]
          exact ⟨_, _, rfl, rfl, rfl, fin, hI, hH, hIm, hX⟩
        · rw [if_neg c4, if_pos (show c ≤ V_od v' by rw [i_le]; rw [i_lt] at c4; omega)]
          exact ⟨_, _, rfl, rfl, rfl, fin, hI, hH, hIm, hX⟩
      · rw [decide_eq_false hc, if_neg (by decide), if_neg (by decide)]
        exact ⟨_, _, rfl, rfl, rfl, h.1, h.2.1, h.2.2.1, h.2.2.2.1, h.2.2.2.2⟩
    · rw [decide_eq_false hq, Bool.and_false, if_pos rfl, if_pos rfl]
      exact ⟨_, _, rfl, rfl, rfl, h.1, h.2.1, h.2.2.1, h.2.2.2.1, h.2.2.2.2⟩
  · rw [decide_eq_false hp, Bool.false_and, if_pos rfl, if_pos rfl]
    exact ⟨_, _, rfl, rfl, rfl, h.1, h.2.1, h.2.2.1, h.2.2.2.1, h.2.2.2.2⟩
