theorem sub_m1 (x : Int32) : x + (-1 : Int32) = x - 1 := (Int32.sub_eq_add_neg x 1).symm
theorem z_0 : (0 : Int32).toInt = 0 := rfl
theorem z_1 : (1 : Int32).toInt = 1 := rfl
theorem z_m : (-9999 : Int32).toInt = -9999 := rfl
theorem r_pass1 {fu : Nat} {u : TS} {v : TV} {N K : Nat} (hI : TI u) (hN : S_sl u = nI N) (hN1 : 10 ≤ N) (hN2 : N ≤ 60) (hK1 : 1 ≤ K) (hK2 : K ≤ 20) (hfu : 2000 ≤ fu) :
    ∃ x : Int32 × TV, lf_X2_findHeights_16 fu u (nI K) fu (-9999 : Int32) (0 : Int32) v = some x ∧ ∃ f, x.2 = V_he_ v f ∧ (∀ t, t < N → isL u K t (f t).toInt) ∧ x.1 = f (N - 1) := by
  refine lq_k3 (F := lb_X2_findHeights_16 fu u (nI K)) (fun d a1 a2 a3 => ∃ i f, d = N - i ∧ i ≤ N ∧ a2 = nI i ∧ a3 = V_he_ v f ∧ (∀ t, t < i → isL u K t (f t).toInt) ∧ (i = 0 → a1 = -9999) ∧ (0 < i → a1 = f (i - 1))) _ ?_ fu N (-9999) 0 v (by omega) ⟨0, V_he v, by omega, by omega, rfl, rfl, fun t ht => by omega, fun _ => rfl, fun h => by omega⟩
  rintro rec d a1 a2 a3 ⟨i, f, hd, hi, rfl, rfl, hL, h0, h1⟩ ih
  unfold lb_X2_findHeights_16
  rw [nm_d, hN]
  by_cases h : N ≤ i
  · rw [if_pos (n_le' (by omega) (by omega) h)]
    refine ⟨_, rfl, f, rfl, fun t ht => hL t (by omega), ?_⟩
    have e : i = N := by omega
    subst e
    exact h1 (by omega)
  · rw [if_neg (n_nle (by omega) (by omega) (by omega))]
    simp only [nm_d]
    rw [ix_n (by omega) (by omega), ix_n (by omega) (by omega), n_cl (by omega), n_p1]
    obtain ⟨l1, l2⟩ := hI.lv (k := i) (by omega)
    have new : isL u K i (if a1 - nI K < S_lv u i then S_lv u i else a1 - nI K).toInt := by
      rw [i_max]
      by_cases c : i = 0
      · subst c
        rw [h0 rfl, i_sub (by rw [n_ti (by omega), z_m]; omega) (by rw [n_ti (by omega), z_m]; omega), n_ti (by omega), z_m, if_pos (by omega)]
        exact isL_0
      · have hp := hL (i - 1) (by omega)
        obtain ⟨g1, g2⟩ := isL_rg hI (by omega) hp
        rw [← h1 (by omega)] at hp g1 g2
        have := isL_s (r' := if (a1 - nI K).toInt < (S_lv u i).toInt then (S_lv u i).toInt else (a1 - nI K).toInt) hp (by
          rw [i_sub (by rw [n_ti (by omega)]; omega) (by rw [n_ti (by omega)]; omega), n_ti (by omega), show i - 1 + 1 = i by omega]
          rfl)
        rw [show i - 1 + 1 = i by omega] at this
        exact this
    refine ih (N - (i + 1)) _ _ _ (by omega) ⟨i + 1, upd f i (if a1 - nI K < S_lv u i then S_lv u i else a1 - nI K), rfl, by omega, rfl, rfl, fun t ht => ?_, fun e => by omega, fun _ => ?_⟩
    · by_cases c : t = i
      · rw [c, pk_us]
        exact new
      · rw [pk_un c]
        exact hL t (by omega)
    · rw [show i + 1 - 1 = i by omega, pk_us]
theorem r_pass2 {fu : Nat} {u : TS} {v : TV} {N K : Nat} {f0 : Nat → Int32} (hI : TI u) (hN1 : 10 ≤ N) (hN2 : N ≤ 60) (hK1 : 1 ≤ K) (hK2 : K ≤ 20) (hfu : 2000 ≤ fu) (hf : ∀ t, t < N → isL u K t (f0 t).toInt) :
    ∃ x : TV, lf_X2_findHeights_66 fu (nI K) fu (f0 (N - 1)) (nI N - 1) (V_he_ v f0) = some x ∧ ∃ f, x = V_he_ v f ∧ ∀ t, t < N → isR u N K t (f t).toInt := by
  refine lq_k3 (F := lb_X2_findHeights_66 fu (nI K)) (fun d a1 a2 a3 => ∃ r f, d = r ∧ r ≤ N ∧ a2 = nI r - 1 ∧ a3 = V_he_ v f ∧ (∀ t, t < r → isL u K t (f t).toInt) ∧ (∀ t, r ≤ t → t < N → isR u N K t (f t).toInt) ∧ (r = N → a1 = f (N - 1)) ∧ (r < N → a1 = f r)) _ ?_ fu N _ _ _ (by omega) ⟨N, f0, rfl, by omega, rfl, rfl, hf, fun t h1 h2 => by omega, fun _ => rfl, fun h => by omega⟩
  rintro rec r a1 a2 a3 ⟨d, f, rfl, hr, rfl, rfl, hL, hR, h1, h2⟩ ih
  unfold lb_X2_findHeights_66
  by_cases h : r = 0
  · subst h
    rw [if_pos (by decide)]
    exact ⟨_, rfl, f, rfl, fun t ht => hR t (by omega) ht⟩
  · rw [n_m1 (by omega), if_neg (fun e => by rw [i_lt, n_ti (by omega), z_0] at e; omega)]
    simp only [nm_d]
    rw [ix_n (by omega) (by omega), ix_n (by omega) (by omega), n_cl (by omega), sub_m1]
    have hl := hL (r - 1) (by omega)
    obtain ⟨l1, l2⟩ := isL_rg hI (by omega) hl
    have new : isR u N K (r - 1) (if a1 - nI K < f (r - 1) then f (r - 1) else a1 - nI K).toInt := by
      rw [i_max]
      by_cases c : r = N
      · rw [h1 c, c, i_sub (by rw [n_ti (by omega), ← c]; omega) (by rw [n_ti (by omega), ← c]; omega), n_ti (by omega), if_pos (by omega)]
        rw [c] at hl
        exact isR_last (by omega) hl
      · have hp := hR r (Nat.le_refl r) (by omega)
        obtain ⟨g1, g2⟩ := isR_rg hI hN2 (by omega) hp
        rw [← h2 (by omega)] at hp g1 g2
        rw [show r = (r - 1) + 1 by omega] at hp
        refine isR_s hK1 (by omega) hp hl ?_
        rw [i_sub (by rw [n_ti (by omega)]; omega) (by rw [n_ti (by omega)]; omega), n_ti (by omega)]
    refine ih (r - 1) _ _ _ (by omega) ⟨r - 1, upd f (r - 1) (if a1 - nI K < f (r - 1) then f (r - 1) else a1 - nI K), rfl, by omega, rfl, rfl, fun t ht => ?_, fun t g1 g2 => ?_, fun e => by omega, fun _ => ?_⟩
    · rw [pk_un (by omega)]
      exact hL t (by omega)
    · by_cases c : t = r - 1
      · rw [c, pk_us]
        exact new
      · rw [pk_un c]
        exact hR t (by omega) g2
    · rw [pk_us]
      rfl
theorem r_heights {fu : Nat} {u : TS} {v : TV} {N K : Nat} (hI : TI u) (hN : S_sl u = nI N) (hN1 : 10 ≤ N) (hN2 : N ≤ 60) (hK : S_nu u 0 = nI K) (hK1 : 1 ≤ K) (hK2 : K ≤ 20) (hfu : 2000 ≤ fu) :
    ∃ f, f_X2_findHeights fu v u = some (V_he_ v f) ∧ ∀ t, t < N → isR u N K t (f t).toInt := by
  obtain ⟨x, e1, f, e2, hf, e3⟩ := r_pass1 (v := v) hI hN hN1 hN2 hK1 hK2 hfu
  obtain ⟨y, g1, f2, g2, hf2⟩ := r_pass2 (v := v) hI hN1 hN2 hK1 hK2 hfu hf
  refine ⟨f2, ?_, hf2⟩
  unfold f_X2_findHeights
  simp only [nm_d]
  rw [hK, e1, bd_s, e2, e3, hN, g1, bd_s, g2]
/-! the reference's way -/
theorem e_size (fu : Nat) (x : Int32) : f_X5_size fu x = some (if 0 ≤ x then x else 0 - x) := by
  unfold f_X5_size
  by_cases h : 0 ≤ x
  · rw [if_pos h, if_pos h]
  · rw [if_neg h, if_neg h, nm_d, Int32.zero_sub]
theorem e_greater (fu : Nat) (a b : Int32) : f_X5_greater fu a b = some (if a < b then b else a) := by
  unfold f_X5_greater
  by_cases h : a < b
  · rw [if_pos h, if_pos (by rw [i_le]; rw [i_lt] at h; omega)]
  · rw [if_neg h]
    by_cases h2 : a ≤ b
    · rw [if_pos h2]
      have e : a = b := by rw [i_eq]; rw [i_lt] at h; rw [i_le] at h2; omega
      rw [e]
    · rw [if_neg h2]
theorem i_abs {x : Int32} (h1 : -1000000 ≤ x.toInt) (h2 : x.toInt ≤ 1000000) : (if 0 ≤ x then x else 0 - x).toInt = if 0 ≤ x.toInt then x.toInt else -x.toInt := by
  by_cases h : 0 ≤ x
  · rw [if_pos h, if_pos (by rw [i_le, z_0] at h; exact h)]
  · rw [if_neg h, if_neg (by rw [i_le, z_0] at h; exact h), i_sub (by rw [z_0]; omega) (by rw [z_0]; omega), z_0]
    omega
theorem far_b {K : Nat} {d : Int} (hK : K ≤ 20) (h0 : 0 ≤ d) (h : d ≤ 60) : 0 ≤ (K : Int) * d ∧ (K : Int) * d ≤ 1200 := by
  refine ⟨Int.mul_nonneg (by omega) h0, ?_⟩
  have h1 : (K : Int) * d ≤ 20 * d := Int.mul_le_mul_of_nonneg_right (by omega) h0
  omega
/-- what a sleeper j gives at i -/
theorem far {u : TS} {K i j : Nat} (hI : TI u) (hK : K ≤ 20) (hi : i < 60) (hj : j < 60) : (S_lv u j - nI K * (if 0 ≤ nI i - nI j then nI i - nI j else 0 - (nI i - nI j))).toInt = lvI u j - K * dst i j := by
  have e1 : (nI i - nI j).toInt = (i : Int) - j := by
    rw [i_sub (by rw [n_ti (by omega), n_ti (by omega)]; omega) (by rw [n_ti (by omega), n_ti (by omega)]; omega), n_ti (by omega), n_ti (by omega)]
  have e2 : (if 0 ≤ nI i - nI j then nI i - nI j else 0 - (nI i - nI j)).toInt = dst i j := by
    rw [i_abs (by rw [e1]; omega) (by rw [e1]; omega), e1]
    unfold dst
    by_cases c : j ≤ i
    · rw [if_pos c, if_pos (by omega)]
    · rw [if_neg c, if_neg (by omega)]
      omega
  have hd : 0 ≤ dst i j ∧ dst i j ≤ 60 := by
    unfold dst
    split <;> omega
  obtain ⟨b1, b2⟩ := far_b hK hd.1 hd.2
  have e3 : (nI K * (if 0 ≤ nI i - nI j then nI i - nI j else 0 - (nI i - nI j))).toInt = K * dst i j := by
    rw [i_mul (by rw [e2, n_ti (by omega)]; omega) (by rw [e2, n_ti (by omega)]; omega), e2, n_ti (by omega)]
  obtain ⟨l1, l2⟩ := hI.lv hj
  rw [i_sub (by rw [e3]; omega) (by rw [e3]; omega), e3]
  rfl
theorem r_rail {fu : Nat} {u : TS} {m : TM} {N K : Nat} (hT : TR u (M_ss m)) (hI : TI u) (hN : S_sl u = nI N) (hN1 : 10 ≤ N) (hN2 : N ≤ 60) (hK : S_nu u 0 = nI K) (hK1 : 1 ≤ K) (hK2 : K ≤ 20) (hfu : 2000 ≤ fu) :
    ∃ f, f_X5_laysRail fu m = some (M_ra_ m f) ∧ ∀ t, t < N → isR u N K t (f t).toInt := by
  have s0 : M_ss m 0 = nI N := hT.sl.symm.trans hN
  have s1 : M_ss m 1 = nI K := (hT.nu (k := 0) (by omega)).symm.trans hK
  have inner : ∀ (i : Nat) (f0 : Nat → Int32), i < N → f0 i = S_lv u i → ∃ x : TM, lf_X5_laysRail_29 fu (nI i) fu (0 : Int32) (M_ra_ m f0) = some x ∧ ∃ f, x = M_ra_ m f ∧ (∀ t, t ≠ i → f t = f0 t) ∧ isR u N K i (f i).toInt := by
    intro i f0 hi hf0
    refine lq_k2 (F := lb_X5_laysRail_29 fu (nI i)) (fun d a1 a2 => ∃ j f, d = N - j ∧ j ≤ N ∧ a1 = nI j ∧ a2 = M_ra_ m f ∧ (∀ t, t ≠ i → f t = f0 t) ∧ (∀ t, t < j → lvI u t - K * dst i t ≤ (f i).toInt) ∧ ∃ t, t < N ∧ (f i).toInt = lvI u t - K * dst i t) _ ?_ fu N 0 _ (by omega) ⟨0, f0, by omega, by omega, rfl, rfl, fun _ _ => rfl, fun t h => by omega, i, hi, ?_⟩
    · rintro rec d a1 a2 ⟨j, f, hd, hj, rfl, rfl, hf, hg, t0, ht0, et0⟩ ih
      unfold lb_X5_laysRail_29
      simp only [nm_d, e_size, bd_s, e_greater]
      rw [show M_ss (M_ra_ m f) 0 = nI N from s0]
      by_cases h : N ≤ j
      · rw [if_pos (n_le' (by omega) (by omega) h)]
        exact ⟨_, rfl, f, rfl, hf, fun t ht => hg t (by omega), t0, ht0, et0⟩
      · rw [if_neg (n_nle (by omega) (by omega) (by omega)), ix_n (by omega) (by omega), n_41, ix_n (by omega) (by omega), ix_n (by omega) (by omega), n_cl (by omega), n_cl (by omega), n_p1]
        rw [show M_ss (M_ra_ m f) (41 + j) = S_lv u j from (hT.lv (by omega)).symm, show M_ss (M_ra_ m f) 1 = nI K from s1, show M_ra (M_ra_ m f) = f from rfl]
        have far1 := far (u := u) (K := K) (i := i) (j := j) hI hK2 (by omega) (by omega)
        refine ih (N - (j + 1)) _ _ (by omega) ⟨j + 1, upd f i (if f i < S_lv u j - nI K * (if 0 ≤ nI i - nI j then nI i - nI j else 0 - (nI i - nI j)) then S_lv u j - nI K * (if 0 ≤ nI i - nI j then nI i - nI j else 0 - (nI i - nI j)) else f i), rfl, by omega, rfl, rfl, fun t ht => ?_, fun t ht => ?_, ?_⟩
        · rw [pk_un ht]
          exact hf t ht
        · rw [pk_us, i_max, far1]
          by_cases c : t < j
          · have := hg t c
            split <;> omega
          · have e : t = j := by omega
            subst e
            split <;> omega
        · rw [pk_us, i_max, far1]
          by_cases c : (f i).toInt < lvI u j - K * dst i j
          · rw [if_pos c]
            exact ⟨j, by omega, rfl⟩
          · rw [if_neg c]
            exact ⟨t0, ht0, et0⟩
    · rw [hf0]
      have e0 : dst i i = 0 := by
        unfold dst
        rw [if_pos (Nat.le_refl i)]
        omega
      rw [e0, Int.mul_zero]
      unfold lvI
      omega
  have outer : ∃ x : TM, lf_X5_laysRail_2 fu fu (0 : Int32) m = some x ∧ ∃ f, x = M_ra_ m f ∧ ∀ t, t < N → isR u N K t (f t).toInt := by
    refine lq_k2 (F := lb_X5_laysRail_2 fu) (fun d a1 a2 => ∃ i f, d = N - i ∧ i ≤ N ∧ a1 = nI i ∧ a2 = M_ra_ m f ∧ ∀ t, t < i → isR u N K t (f t).toInt) _ ?_ fu N 0 m (by omega) ⟨0, M_ra m, by omega, by omega, rfl, rfl, fun t h => by omega⟩
    rintro rec d a1 a2 ⟨i, f, hd, hi, rfl, rfl, hf⟩ ih
    unfold lb_X5_laysRail_2
    simp only [nm_d]
    rw [show M_ss (M_ra_ m f) 0 = nI N from s0]
    by_cases h : N ≤ i
    · rw [if_pos (n_le' (by omega) (by omega) h)]
      exact ⟨_, rfl, f, rfl, fun t ht => hf t (by omega)⟩
    · rw [if_neg (n_nle (by omega) (by omega) (by omega)), n_41, ix_n (by omega) (by omega), ix_n (by omega) (by omega), n_cl (by omega), n_cl (by omega), n_p1]
      obtain ⟨x, e1, f2, rfl, g1, g2⟩ := inner i (upd f i (S_lv u i)) (by omega) pk_us
      rw [show M_ss (M_ra_ m f) (41 + i) = S_lv u i from (hT.lv (by omega)).symm, show M_ra_ (M_ra_ m f) (upd (M_ra (M_ra_ m f)) i (S_lv u i)) = M_ra_ m (upd f i (S_lv u i)) from rfl, e1, bd_s]
      refine ih (N - (i + 1)) _ _ (by omega) ⟨i + 1, f2, rfl, by omega, rfl, rfl, fun t ht => ?_⟩
      by_cases c : t = i
      · rw [c]
        exact g2
      · rw [g1 t c, pk_un c]
        exact hf t (by omega)
  obtain ⟨x, e1, f, rfl, hf⟩ := outer
  refine ⟨f, ?_, hf⟩
  unfold f_X5_laysRail
  rw [e1]
  rfl
