theorem wf_1 {he : Nat → Int32} {N A : Nat} : ∀ k, ∃ j, j ≤ k ∧ (wf he N A k).1 = nI j
  | 0 => ⟨0, Nat.le_refl 0, rfl⟩
  | k + 1 => by
    obtain ⟨j, hj, e⟩ := wf_1 (he := he) (N := N) (A := A) k
    show ∃ j, j ≤ k + 1 ∧ (if sz (df he N A k) ≤ (wf he N A k).2 then wf he N A k else (nI k, sz (df he N A k))).1 = nI j
    by_cases c : sz (df he N A k) ≤ (wf he N A k).2
    · rw [if_pos c]
      exact ⟨j, by omega, e⟩
    · rw [if_neg c]
      exact ⟨k, by omega, rfl⟩
/-- the reference's reason, of the first k -/
def yf (l : Int32) (he : Nat → Int32) (N A k : Nat) : Int32 × Int32 := if (wf he N A k).2 ≤ l then ((-100009 : Int32), l) else wf he N A k
theorem yf_s {l : Int32} {he : Nat → Int32} {N A k : Nat} : yf l he N A (k + 1) = if sz (df he N A k) ≤ (yf l he N A k).2 then yf l he N A k else (nI k, sz (df he N A k)) := by
  unfold yf
  have w : wf he N A (k + 1) = if sz (df he N A k) ≤ (wf he N A k).2 then wf he N A k else (nI k, sz (df he N A k)) := rfl
  rw [w]
  generalize sz (df he N A k) = x
  generalize wf he N A k = q
  by_cases c : q.2 ≤ l
  · rw [if_pos c]
    by_cases d : x ≤ l
    · rw [if_pos (show x ≤ ((-100009 : Int32), l).2 from d)]
      by_cases e : x ≤ q.2
      · rw [if_pos e, if_pos c]
      · rw [if_neg e, if_pos (show ((nI k, x) : Int32 × Int32).2 ≤ l from d)]
    · rw [if_neg (show ¬ x ≤ ((-100009 : Int32), l).2 from d), if_neg (show ¬ x ≤ q.2 from fun e => d (by rw [i_le] at e c ⊢; omega)), if_neg (show ¬ ((nI k, x) : Int32 × Int32).2 ≤ l from d)]
  · rw [if_neg c]
    by_cases e : x ≤ q.2
    · rw [if_pos e, if_neg c]
    · rw [if_neg e, if_neg (show ¬ ((nI k, x) : Int32 × Int32).2 ≤ l from fun d => by
        have d2 : x ≤ l := d
        rw [i_le] at c e d2
        omega)]
theorem e_whyL {fu : Nat} {m : TM} {u : TS} {N A : Nat} (hT : TR u (M_ss m)) (hI : TI u) (hN : S_sl u = nI N) (hN1 : 10 ≤ N) (hN2 : N ≤ 60) (hA : S_nu u 2 = nI A) (hA1 : 1 ≤ A) (hA2 : A ≤ 5) (hfu : 2000 ≤ fu) : lf_X5_why_29 fu m fu (-100009 : Int32) (M_ss m 4) (0 : Int32) = some (yf (S_nu u 3) (M_ra m) N A N) := by
  have h := cp_loop3 (F := lb_X5_why_29 fu m) N (fun k => (yf (S_nu u 3) (M_ra m) N A k).1) (fun k => (yf (S_nu u 3) (M_ra m) N A k).2) (fun k => nI k) (yf (S_nu u 3) (M_ra m) N A N) (fun rec => by
    unfold lb_X5_why_29
    rw [nm_d, show M_ss m 0 = nI N from hT.sl.symm.trans hN, if_pos (n_le' (by omega) (by omega) (Nat.le_refl N))]) (fun rec k hk => by
    unfold lb_X5_why_29
    rw [nm_d, show M_ss m 0 = nI N from hT.sl.symm.trans hN, if_neg (n_nle (by omega) (by omega) hk), e_defect hT hN hN1 hN2 hA hA1 hA2 hk]
    simp only [bd_s, e_size, jn_e, nm_d]
    rw [show (if 0 ≤ df (M_ra m) N A k then df (M_ra m) N A k else 0 - df (M_ra m) N A k) = sz (df (M_ra m) N A k) from rfl, yf_s, n_p1]
    by_cases c : sz (df (M_ra m) N A k) ≤ (yf (S_nu u 3) (M_ra m) N A k).2
    · simp only [if_pos c, if_true]
    · simp only [if_neg c, if_neg (show ¬ (1 : Int32) = 0 by decide)]) fu 0 (by omega) (by omega)
  obtain ⟨-, -, -, ⟨l1, l2, l3, l4⟩, -⟩ := hI.nu
  have z : yf (S_nu u 3) (M_ra m) N A 0 = ((-100009 : Int32), S_nu u 3) := if_pos (show (0 : Int32) ≤ S_nu u 3 from by rw [i_le, z_0]; omega)
  rw [z] at h
  rw [show M_ss m 4 = S_nu u 3 from (hT.nu (k := 3) (by omega)).symm]
  exact h
theorem op_why {fu : Nat} (hfu : 2000 ≤ fu) : OP_why RR fu := by
  intro C m p h
  obtain ⟨hT, hI, hH, hIm, hX⟩ := id h
  unfold f_X4_why f_X5_why
  simp only [e_within, e_in, bd_s, bf, Bool.not_eq_false, nm_d, jn_e]
  by_cases hc : (0 : Int32).toInt ≤ p.toInt ∧ p.toInt ≤ (1 : Int32).toInt
  · rw [decide_eq_true hc]; simp only [it_tt, it_ff, it_tf, it_ft, if_true, if_false]
    obtain ⟨N, K, Hh, A, eN, hN1, hN2, eK, hK1, hK2, eH, hH1, eA, hA1, hA2⟩ := hI.nat
    obtain ⟨f, e1, hf⟩ := r_look (v := C_sv C) hI eN hN1 hN2 eK hK1 hK2 eA hA1 hA2 hfu
    obtain ⟨g, e2, hg⟩ := r_rail hT hI eN hN1 hN2 eK hK1 hK2 hfu
    have efg := ra_eq hf hg
    rw [e1, e2, bd_s, bd_s, e_whyL (m := M_ra_ m g) hT hI eN hN1 hN2 eA hA1 hA2 hfu, bd_s]
    rw [show V_od (lk (C_sv C) (C_now C) N A f) = od (C_now C) (wf f N A N).2 from rfl, show V_ws (lk (C_sv C) (C_now C) N A f) = (wf f N A N).2 from rfl, show V_wo (lk (C_sv C) (C_now C) N A f) = (wf f N A N).1 from rfl, show M_ra (M_ra_ m g) = g from rfl, wf_c efg N (Nat.le_refl N)]
    unfold yf
    by_cases c : (wf g N A N).2 ≤ S_nu (C_now C) 3
    · have z : od (C_now C) (wf g N A N).2 = 0 := if_neg (by rw [i_lt]; rw [i_le] at c; omega)
      rw [if_pos c, z, if_neg (fun e => e rfl), if_pos rfl]
      exact ⟨_, _, rfl, rfl, rfl, h.1, h.2.1, h.2.2.1, h.2.2.2.1, h.2.2.2.2⟩
    · have z : ¬ od (C_now C) (wf g N A N).2 = 0 := by
        rw [i_eq, od_v, if_pos (by rw [i_lt]; rw [i_le] at c; omega), z_0]
        split <;> (try split) <;> omega
      obtain ⟨j, hj, ej⟩ := wf_1 (he := g) (N := N) (A := A) N
      have ne : ¬ (wf g N A N).1 = -100009 := fun e => by
        rw [ej, i_eq, n_ti (by omega)] at e
        have : (-100009 : Int32).toInt = -100009 := rfl
        omega
      rw [if_neg c, if_pos z, if_neg ne]
      by_cases d : p = 0
      · rw [if_neg (fun e => e d), if_neg (fun e => e d)]
        exact ⟨_, _, rfl, rfl, rfl, h.1, h.2.1, h.2.2.1, h.2.2.2.1, h.2.2.2.2⟩
      · rw [if_pos d, if_pos d]
        exact ⟨_, _, rfl, rfl, rfl, h.1, h.2.1, h.2.2.1, h.2.2.2.1, h.2.2.2.2⟩
  · rw [decide_eq_false hc]; simp only [it_tt, it_ff, it_tf, it_ft, if_true, if_false]
    exact ⟨_, _, rfl, rfl, rfl, h.1, h.2.1, h.2.2.1, h.2.2.2.1, h.2.2.2.2⟩
/-! rail, both ways -/
theorem r_great {fu : Nat} {v : TV} {u : TS} {N K i : Nat} (hI : TI u) (hN : S_sl u = nI N) (hN1 : 10 ≤ N) (hN2 : N ≤ 60) (hK : S_nu u 0 = nI K) (hK1 : 1 ≤ K) (hK2 : K ≤ 20) (hi : i < N) (hfu : 2000 ≤ fu) :
    ∃ r, f_X2_greatestOfAll fu v u (nI i) = some r ∧ isR u N K i r.toInt := by
  have key : ∃ x : Int32, lf_X2_greatestOfAll_12 fu u (nI i) fu (S_lv u i) (0 : Int32) = some x ∧ isR u N K i x.toInt := by
    refine lq_k2 (F := lb_X2_greatestOfAll_12 fu u (nI i)) (fun d a1 a2 => ∃ j, d = N - j ∧ j ≤ N ∧ a2 = nI j ∧ (∀ t, t < j → lvI u t - K * dst i t ≤ a1.toInt) ∧ ∃ t, t < N ∧ a1.toInt = lvI u t - K * dst i t) _ ?_ fu N _ 0 (by omega) ⟨0, by omega, by omega, rfl, fun t h => by omega, i, hi, ?_⟩
    · rintro rec d a1 a2 ⟨j, hd, hj, rfl, hg, t0, ht0, et0⟩ ih
      unfold lb_X2_greatestOfAll_12
      simp only [nm_d]
      rw [hN]
      by_cases h : N ≤ j
      · rw [if_pos (n_le' (by omega) (by omega) h)]
        exact ⟨_, rfl, fun t ht => hg t (by omega), t0, ht0, et0⟩
      · rw [if_neg (n_nle (by omega) (by omega) (by omega)), ix_n (by omega) (by omega), n_cl (by omega), n_p1, hK]
        have far1 := far (u := u) (K := K) (i := i) (j := j) hI hK2 (by omega) (by omega)
        refine ih (N - (j + 1)) _ _ (by omega) ⟨j + 1, rfl, by omega, rfl, fun t ht => ?_, ?_⟩
        · rw [i_max, far1]
          by_cases c : t < j
          · have := hg t c
            split <;> omega
          · have e : t = j := by omega
            subst e
            split <;> omega
        · rw [i_max, far1]
          by_cases c : a1.toInt < lvI u j - K * dst i j
          · rw [if_pos c]
            exact ⟨j, by omega, rfl⟩
          · rw [if_neg c]
            exact ⟨t0, ht0, et0⟩
    · have e0 : dst i i = 0 := by
        unfold dst
        rw [if_pos (Nat.le_refl i)]
        omega
      rw [e0, Int.mul_zero]
      unfold lvI
      omega
  obtain ⟨x, e, hx⟩ := key
  refine ⟨x, ?_, hx⟩
  unfold f_X2_greatestOfAll
  rw [ix_n (by omega) (by omega), nm_d, n_cl (by omega), e]
  rfl
theorem r_own1 {fu : Nat} {u : TS} {m : TM} {N K : Nat} (hT : TR u (M_ss m)) (hI : TI u) (hN : S_sl u = nI N) (hN1 : 10 ≤ N) (hN2 : N ≤ 60) (hK : S_nu u 0 = nI K) (hK1 : 1 ≤ K) (hK2 : K ≤ 20) (hfu : 2000 ≤ fu) :
    ∃ x : TM, lf_X5_rail_38 fu fu (0 : Int32) m = some x ∧ ∃ f, x = M_ra_ m f ∧ ∀ t, t < N → isL u K t (f t).toInt := by
  have s0 : M_ss m 0 = nI N := hT.sl.symm.trans hN
  have s1 : M_ss m 1 = nI K := (hT.nu (k := 0) (by omega)).symm.trans hK
  refine lq_k2 (F := lb_X5_rail_38 fu) (fun d a1 a2 => ∃ i f, d = N - i ∧ i ≤ N ∧ a1 = nI i ∧ a2 = M_ra_ m f ∧ ∀ t, t < i → isL u K t (f t).toInt) _ ?_ fu N 0 m (by omega) ⟨0, M_ra m, by omega, by omega, rfl, rfl, fun t h => by omega⟩
  rintro rec d a1 a2 ⟨i, f, hd, hi, rfl, rfl, hf⟩ ih
  unfold lb_X5_rail_38
  simp only [nm_d, jn_e, e_greater, bd_s]
  rw [show M_ss (M_ra_ m f) 0 = nI N from s0]
  by_cases h : N ≤ i
  · rw [if_pos (n_le' (by omega) (by omega) h)]
    exact ⟨_, rfl, f, rfl, fun t ht => hf t (by omega)⟩
  · rw [if_neg (n_nle (by omega) (by omega) (by omega)), n_p1]
    by_cases c : i = 0
    · subst c
      rw [if_neg (fun e => e rfl), ix_n (by omega) (by omega), n_cl (by omega), show M_ss (M_ra_ m f) 41 = S_lv u 0 from (hT.lv (k := 0) (by omega)).symm]
      refine ih (N - (0 + 1)) _ _ (by omega) ⟨0 + 1, upd f 0 (S_lv u 0), rfl, by omega, rfl, rfl, fun t ht => ?_⟩
      have e : t = 0 := by omega
      subst e
      rw [pk_us]
      exact isL_0
    · rw [if_pos (show ¬ nI i = 0 from fun e => c ((n_eq (b := 0) (by omega) (by omega)).mp e)), n_41, ix_n (by omega) (by omega), n_m1 (by omega), ix_n (by omega) (by omega), ix_n (by omega) (by omega), n_cl (by omega), n_cl (by omega), n_cl (by omega)]
      rw [show M_ss (M_ra_ m f) (41 + i) = S_lv u i from (hT.lv (by omega)).symm, show M_ss (M_ra_ m f) 1 = nI K from s1, show M_ra (M_ra_ m f) = f from rfl]
      have hp := hf (i - 1) (by omega)
      obtain ⟨g1, g2⟩ := isL_rg hI (by omega) hp
      have new : isL u K i (if S_lv u i < f (i - 1) - nI K then f (i - 1) - nI K else S_lv u i).toInt := by
        have := isL_s (r' := (if S_lv u i < f (i - 1) - nI K then f (i - 1) - nI K else S_lv u i).toInt) hp (by
          rw [i_max, i_sub (by rw [n_ti (by omega)]; omega) (by rw [n_ti (by omega)]; omega), n_ti (by omega), show i - 1 + 1 = i by omega]
          unfold lvI
          split <;> split <;> omega)
        rw [show i - 1 + 1 = i by omega] at this
        exact this
      refine ih (N - (i + 1)) _ _ (by omega) ⟨i + 1, upd f i (if S_lv u i < f (i - 1) - nI K then f (i - 1) - nI K else S_lv u i), rfl, by omega, rfl, rfl, fun t ht => ?_⟩
      by_cases c2 : t = i
      · rw [c2, pk_us]
        exact new
      · rw [pk_un c2]
        exact hf t (by omega)
theorem r_own2 {fu : Nat} {u : TS} {m : TM} {N K : Nat} {f0 : Nat → Int32} (hT : TR u (M_ss m)) (hI : TI u) (hN1 : 10 ≤ N) (hN2 : N ≤ 60) (hK : S_nu u 0 = nI K) (hK1 : 1 ≤ K) (hK2 : K ≤ 20) (hfu : 2000 ≤ fu) (h0 : ∀ t, t < N → isL u K t (f0 t).toInt) :
    ∃ x : TM, lf_X5_rail_110 fu fu (nI N - 2) (M_ra_ m f0) = some x ∧ ∃ f, x = M_ra_ m f ∧ ∀ t, t < N → isR u N K t (f t).toInt := by
  have s1 : M_ss m 1 = nI K := (hT.nu (k := 0) (by omega)).symm.trans hK
  refine lq_k2 (F := lb_X5_rail_110 fu) (fun d a1 a2 => ∃ r f, d = r ∧ r < N ∧ a1 = nI r - 1 ∧ a2 = M_ra_ m f ∧ (∀ t, t < r → isL u K t (f t).toInt) ∧ ∀ t, r ≤ t → t < N → isR u N K t (f t).toInt) _ ?_ fu (N - 1) _ _ (by omega) ⟨N - 1, f0, rfl, by omega, ?_, rfl, fun t ht => h0 t (by omega), fun t g1 g2 => ?_⟩
  · rintro rec r a1 a2 ⟨d, f, rfl, hr, rfl, rfl, hL, hR⟩ ih
    unfold lb_X5_rail_110
    by_cases h : r = 0
    · subst h
      rw [if_pos (by decide)]
      exact ⟨_, rfl, f, rfl, fun t ht => hR t (by omega) ht⟩
    · rw [n_m1 (by omega), if_neg (fun e => by rw [i_lt, n_ti (by omega), z_0] at e; omega)]
      simp only [nm_d, e_greater, bd_s]
      rw [n_p1, show r - 1 + 1 = r by omega, ix_n (by omega) (by omega), ix_n (by omega) (by omega), ix_n (by omega) (by omega), n_cl (by omega), n_cl (by omega), sub_m1]
      rw [show M_ss (M_ra_ m f) 1 = nI K from s1, show M_ra (M_ra_ m f) = f from rfl]
      have hl := hL (r - 1) (by omega)
      obtain ⟨l1, l2⟩ := isL_rg hI (by omega) hl
      have hp := hR r (Nat.le_refl r) (by omega)
      obtain ⟨g1, g2⟩ := isR_rg hI hN2 (by omega) hp
      have new : isR u N K (r - 1) (if f (r - 1) < f r - nI K then f r - nI K else f (r - 1)).toInt := by
        have hp2 := hp
        rw [show r = (r - 1) + 1 by omega] at hp2
        refine isR_s hK1 (by omega) hp2 hl ?_
        rw [i_max, show r - 1 + 1 = r by omega, i_sub (by rw [n_ti (by omega)]; omega) (by rw [n_ti (by omega)]; omega), n_ti (by omega)]
        split <;> split <;> omega
      refine ih (r - 1) _ _ (by omega) ⟨r - 1, upd f (r - 1) (if f (r - 1) < f r - nI K then f r - nI K else f (r - 1)), rfl, by omega, rfl, rfl, fun t ht => ?_, fun t k1 k2 => ?_⟩
      · rw [pk_un (by omega)]
        exact hL t (by omega)
      · by_cases c : t = r - 1
        · rw [c, pk_us]
          exact new
        · rw [pk_un c]
          exact hR t (by omega) k2
  · rw [i_eq, i_sub (by rw [n_ti (by omega)]; show -2147483648 ≤ (N : Int) - 2; omega) (by rw [n_ti (by omega)]; show (N : Int) - 2 < 2147483648; omega), n_m1 (by omega), n_ti (by omega), n_ti (by omega)]
    show (N : Int) - 2 = _
    omega
  · have e : t = N - 1 := by omega
    subst e
    exact isR_last (by omega) (h0 (N - 1) (by omega))
theorem op_rail {fu : Nat} (hfu : 2000 ≤ fu) : OP_rail RR fu := by
  intro C m p w h
  obtain ⟨hT, hI, hH, hIm, hX⟩ := id h
  unfold f_X4_rail f_X5_rail
  simp only [e_has, e_isSleeper, e_within, e_in, bd_s, bf, Bool.not_eq_false, nm_d]
  rw [← hT.sl]
  cases h1 : hs (S_sl (C_now C)) p with
  | false =>
    simp only [it_tt, it_ff, it_tf, it_ft, if_true, if_false]
    exact ⟨_, _, rfl, rfl, rfl, h.1, h.2.1, h.2.2.1, h.2.2.2.1, h.2.2.2.2⟩
  | true =>
    simp only [it_tt, it_ff, it_tf, it_ft, if_true, if_false]
    by_cases hc : (0 : Int32).toInt ≤ w.toInt ∧ w.toInt ≤ (1 : Int32).toInt
    · rw [decide_eq_true hc]; simp only [it_tt, it_ff, it_tf, it_ft, if_true, if_false]
      obtain ⟨N, K, Hh, A, eN, hN1, hN2, eK, hK1, hK2, eH, hH1, eA, hA1, hA2⟩ := hI.nat
      rw [eN] at h1
      obtain ⟨i, rfl, hi⟩ := hs_t h1 (by omega) (by omega)
      by_cases hw : w = 1
      · rw [if_neg (fun e => e hw), if_neg (fun e => e hw)]
        obtain ⟨r, e1, hr⟩ := r_great (v := C_sv C) hI eN hN1 hN2 eK hK1 hK2 hi hfu
        obtain ⟨g, e2, hg⟩ := r_rail hT hI eN hN1 hN2 eK hK1 hK2 hfu
        rw [e1, bd_s, e2, bd_s, ix_n (by omega) (by omega), n_cl (by omega)]
        refine ⟨_, _, rfl, rfl, ?_, h.1, h.2.1, h.2.2.1, h.2.2.2.1, h.2.2.2.2⟩
        show r = g i
        rw [i_eq]
        exact isR_uniq hr (hg i hi)
      · rw [if_pos hw, if_pos hw]
        obtain ⟨f, e1, hf⟩ := r_look (v := C_sv C) hI eN hN1 hN2 eK hK1 hK2 eA hA1 hA2 hfu
        obtain ⟨x, e2, g, rfl, hg⟩ := r_own1 hT hI eN hN1 hN2 eK hK1 hK2 hfu
        obtain ⟨y, e3, k, rfl, hk⟩ := r_own2 (m := m) hT hI hN1 hN2 eK hK1 hK2 hfu hg
        rw [e1, bd_s, ix_n (by omega) (by omega), n_cl (by omega), e2, bd_s, show M_ss (M_ra_ m g) 0 = nI N from hT.sl.symm.trans eN, e3, bd_s, ix_n (by omega) (by omega)]
        refine ⟨_, _, rfl, rfl, ?_, h.1, h.2.1, h.2.2.1, h.2.2.2.1, h.2.2.2.2⟩
        exact ra_eq hf hk i hi
    · rw [decide_eq_false hc]; simp only [it_tt, it_ff, it_tf, it_ft, if_true, if_false]
      exact ⟨_, _, rfl, rfl, rfl, h.1, h.2.1, h.2.2.1, h.2.2.2.1, h.2.2.2.2⟩
