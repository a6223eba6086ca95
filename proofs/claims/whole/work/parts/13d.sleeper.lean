/-! sleeper -/
theorem op_sleeper {fu : Nat} (hfu : 2000 ≤ fu) : OP_sleeper RR fu := by
  intro C m p q h
  obtain ⟨hT, hI, hH, hIm, hX⟩ := id h
  obtain ⟨N, K, Hh, A, eN, hN1, hN2, eK, hK1, hK2, eH, hH1, eA, hA1, hA2⟩ := hI.nat
  obtain ⟨f, e1, hf⟩ := r_look (v := C_sv C) hI eN hN1 hN2 eK hK1 hK2 eA hA1 hA2 hfu
  obtain ⟨g, e2, hgg⟩ := r_rail hT hI eN hN1 hN2 eK hK1 hK2 hfu
  have efg := ra_eq hf hgg
  have hcar := one_car hI hN1 hN2 hgg
  have ha : ∀ t, t < N → V_ha (lk (C_sv C) (C_now C) N A f) t = bI (hgB (C_now C) g t) := fun t ht => by
    show fl (hg (C_now C) f) (V_ha (C_sv C)) 0 N t = _
    rw [fl_in0 ht, hg_bI, hgB_c (efg t ht)]
  obtain ⟨F, lo1, hF⟩ := r_findLoads (fu := fu) (v := lk (C_sv C) (C_now C) N A f) (u := C_now C) (b := hgB (C_now C) g) (f0 := fl (l0 (hgB (C_now C) g)) (M_lo m) 0 N) eN hN1 hN2 (fun t ht => fl_in0 ht) ha hcar hfu
  have lo2 : f_X5_laysLoads fu (M_ra_ m g) = some (M_lo_ (M_ra_ m g) (gl (hgB (C_now C) g) N (fl (l0 (hgB (C_now C) g)) (M_lo m) 0 N) N)) := e_laysLoads (m := M_ra_ m g) hT eN hN1 hN2 hcar hfu
  unfold f_X4_sleeper f_X5_sleeper f_X4_surveyed
  rw [e1, e2]
  simp only [e_has, e_isSleeper, e_within, e_in, bd_s, bf, Bool.not_eq_false, nm_d]
  rw [← hT.sl]
  cases h1 : hs (S_sl (C_now C)) p with
  | false =>
    simp only [it_tt, it_ff, it_tf, it_ft, if_true, if_false]
    exact ⟨_, _, rfl, rfl, rfl, h.1, h.2.1, h.2.2.1, h.2.2.2.1, h.2.2.2.2⟩
  | true =>
    rw [if_neg (show ¬ true = false by decide), if_neg (show ¬ true = false by decide)]
    by_cases hc : (0 : Int32).toInt ≤ q.toInt ∧ q.toInt ≤ (9 : Int32).toInt
    · rw [decide_eq_true hc, if_pos (show true = true from rfl), if_pos (show true = true from rfl)]
      rw [eN] at h1
      obtain ⟨i, rfl, hi⟩ := hs_t h1 (by omega) (by omega)
      obtain ⟨j, rfl, j2, -⟩ := i_of (x := q) (by simpa using hc.1)
      have hj : j < 10 := by
        have := hc.2
        simp at this
        omega
      clear hc j2
      rcases (show j = 0 ∨ j = 1 ∨ j = 2 ∨ j = 3 ∨ j = 4 ∨ j = 5 ∨ j = 6 ∨ j = 7 ∨ j = 8 ∨ j = 9 by omega) with rfl | rfl | rfl | rfl | rfl | rfl | rfl | rfl | rfl | rfl
      · (repeat (first | rw [if_pos (by decide)] | rw [if_neg (by decide)]))
        rw [ix_n (by omega) (by omega), n_41, ix_n (by omega) (by omega), n_cl (by omega), n_cl (by omega)]
        exact ⟨_, _, rfl, rfl, hT.lv (by omega), h.1, h.2.1, h.2.2.1, h.2.2.2.1, h.2.2.2.2⟩
      · (repeat (first | rw [if_pos (by decide)] | rw [if_neg (by decide)]))
        rw [ix_n (by omega) (by omega), n_101, ix_n (by omega) (by omega), n_cl (by omega), n_cl (by omega)]
        exact ⟨_, _, rfl, rfl, hT.fo (by omega), h.1, h.2.1, h.2.2.1, h.2.2.2.1, h.2.2.2.2⟩
      · (repeat (first | rw [if_pos (by decide)] | rw [if_neg (by decide)]))
        rw [ix_n (by omega) (by omega), ix_n (by omega) (by omega), n_cl (by omega)]
        exact ⟨_, _, rfl, rfl, efg i hi, h.1, h.2.1, h.2.2.1, h.2.2.2.1, h.2.2.2.2⟩
      · (repeat (first | rw [if_pos (by decide)] | rw [if_neg (by decide)]))
        rw [e_voidAt (v := lk (C_sv C) (C_now C) N A f) (by omega), e_voidAt5 (m := M_ra_ m g) hT (by omega)]
        exact ⟨_, _, rfl, rfl, show f i - S_lv (C_now C) i = g i - S_lv (C_now C) i by rw [efg i hi], h.1, h.2.1, h.2.2.1, h.2.2.2.1, h.2.2.2.2⟩
      · (repeat (first | rw [if_pos (by decide)] | rw [if_neg (by decide)]))
        rw [ix_n (by omega) (by omega), n_cl (by omega), ha i hi, show f_X5_hangs fu (M_ra_ m g) (nI i) = some (hgB (C_now C) g i) from e_hangs (m := M_ra_ m g) hT (by omega)]
        cases hgB (C_now C) g i with
        | false =>
          rw [if_pos (by decide)]
          exact ⟨_, _, rfl, rfl, rfl, h.1, h.2.1, h.2.2.1, h.2.2.2.1, h.2.2.2.2⟩
        | true =>
          rw [if_neg (by decide)]
          exact ⟨_, _, rfl, rfl, rfl, h.1, h.2.1, h.2.2.1, h.2.2.2.1, h.2.2.2.2⟩
      · (repeat (first | rw [if_pos (by decide)] | rw [if_neg (by decide)]))
        rw [lo1, lo2]
        simp only [bd_s]
        rw [ix_n (by omega) (by omega), ix_n (by omega) (by omega), n_cl (by omega)]
        exact ⟨_, _, rfl, rfl, hF i hi, h.1, h.2.1, h.2.2.1, h.2.2.2.1, h.2.2.2.2⟩
      · (repeat (first | rw [if_pos (by decide)] | rw [if_neg (by decide)]))
        rw [e_defectAt (v := lk (C_sv C) (C_now C) N A f) eN hN1 hN2 eA hA1 hA2 hi, e_defect (m := M_ra_ m g) hT eN hN1 hN2 eA hA1 hA2 hi]
        exact ⟨_, _, rfl, rfl, df_c efg hi, h.1, h.2.1, h.2.2.1, h.2.2.2.1, h.2.2.2.2⟩
      · (repeat (first | rw [if_pos (by decide)] | rw [if_neg (by decide)]))
        rw [e_defectAt (v := lk (C_sv C) (C_now C) N A f) eN hN1 hN2 eA hA1 hA2 hi, e_orderAt (m := M_ra_ m g) hT hI eN hN1 hN2 eA hA1 hA2 hfu hi]
        simp only [bd_s, nm_d, e_orderOf]
        exact ⟨_, _, rfl, rfl, show od (C_now C) (sz (df f N A i)) = od (C_now C) (sz (df g N A i)) by rw [df_c efg hi], h.1, h.2.1, h.2.2.1, h.2.2.2.1, h.2.2.2.2⟩
      · (repeat (first | rw [if_pos (by decide)] | rw [if_neg (by decide)]))
        rw [ix_n (by omega) (by omega), n_161, ix_n (by omega) (by omega), n_cl (by omega), n_cl (by omega)]
        exact ⟨_, _, rfl, rfl, hT.se (by omega), h.1, h.2.1, h.2.2.1, h.2.2.2.1, h.2.2.2.2⟩
      · (repeat (first | rw [if_pos (by decide)] | rw [if_neg (by decide)]))
        rw [ix_n (by omega) (by omega), n_221, ix_n (by omega) (by omega), n_cl (by omega), n_cl (by omega)]
        exact ⟨_, _, rfl, rfl, hT.li (by omega), h.1, h.2.1, h.2.2.1, h.2.2.2.1, h.2.2.2.2⟩
    · rw [decide_eq_false hc, if_neg (show ¬ false = true by decide), if_neg (show ¬ false = true by decide)]
      exact ⟨_, _, rfl, rfl, rfl, h.1, h.2.1, h.2.2.1, h.2.2.2.1, h.2.2.2.2⟩
