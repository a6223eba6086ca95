def dst (i j : Nat) : Int := if j ≤ i then (i : Int) - j else (j : Int) - i
def lvI (u : TS) (j : Nat) : Int := (S_lv u j).toInt
/-- r is the rail's level at i: the greatest of all -/
def isR (u : TS) (N K i : Nat) (r : Int) : Prop := (∀ j, j < N → lvI u j - K * dst i j ≤ r) ∧ ∃ j, j < N ∧ r = lvI u j - K * dst i j
theorem isR_uniq {u : TS} {N K i : Nat} {r r' : Int} (h : isR u N K i r) (h' : isR u N K i r') : r = r' := by
  obtain ⟨j, hj, e⟩ := h.2
  obtain ⟨k, hk, f⟩ := h'.2
  have h1 := h.1 k hk
  have h2 := h'.1 j hj
  omega
theorem isR_rg {u : TS} {N K i : Nat} {r : Int} (hI : TI u) (hN : N ≤ 60) (hi : i < N) (h : isR u N K i r) : -9999 ≤ r ∧ r ≤ 9999 := by
  obtain ⟨j, hj, e⟩ := h.2
  have h1 := h.1 i hi
  have e0 : dst i i = 0 := by unfold dst; rw [if_pos (Nat.le_refl i)]; omega
  rw [e0, Int.mul_zero] at h1
  obtain ⟨l1, l2⟩ := hI.lv (k := i) (by omega)
  obtain ⟨k1, k2⟩ := hI.lv (k := j) (by omega)
  have hd : 0 ≤ dst i j := by unfold dst; split <;> omega
  have hp : 0 ≤ (K : Int) * dst i j := Int.mul_nonneg (by omega) hd
  unfold lvI at *
  omega
theorem i_max {x y : Int32} : (if x < y then y else x).toInt = if x.toInt < y.toInt then y.toInt else x.toInt := by
  by_cases h : x < y
  · rw [if_pos h, if_pos (i_lt.mp h)]
  · rw [if_neg h, if_neg (fun e => h (i_lt.mpr e))]
/-- the greatest of those up to i, seen from i -/
def isL (u : TS) (K i : Nat) (r : Int) : Prop := (∀ j, j ≤ i → lvI u j - K * ((i : Int) - j) ≤ r) ∧ ∃ j, j ≤ i ∧ r = lvI u j - K * ((i : Int) - j)
theorem isL_rg {u : TS} {K i : Nat} {r : Int} (hI : TI u) (hi : i < 60) (h : isL u K i r) : -9999 ≤ r ∧ r ≤ 9999 := by
  obtain ⟨j, hj, e⟩ := h.2
  have h1 := h.1 i (Nat.le_refl i)
  rw [Int.sub_self, Int.mul_zero] at h1
  obtain ⟨l1, l2⟩ := hI.lv (k := i) (by omega)
  obtain ⟨k1, k2⟩ := hI.lv (k := j) (by omega)
  have hp : 0 ≤ (K : Int) * ((i : Int) - j) := Int.mul_nonneg (by omega) (by omega)
  unfold lvI at *
  omega
theorem mul_s (K : Int) (a : Int) : K * (a + 1) = K * a + K := by rw [Int.mul_add, Int.mul_one]
theorem isL_s {u : TS} {K i : Nat} {r r' : Int} (h : isL u K i r) (e : r' = if r - K < lvI u (i + 1) then lvI u (i + 1) else r - K) : isL u K (i + 1) r' := by
  obtain ⟨h1, j, hj, ej⟩ := h
  refine ⟨fun k hk => ?_, ?_⟩
  · by_cases hk2 : k ≤ i
    · have := h1 k hk2
      rw [show ((i + 1 : Nat) : Int) - k = ((i : Int) - k) + 1 by omega, mul_s]
      split at e <;> omega
    · have : k = i + 1 := by omega
      subst this
      rw [Int.sub_self, Int.mul_zero]
      split at e <;> omega
  · by_cases c : r - K < lvI u (i + 1)
    · rw [if_pos c] at e
      exact ⟨i + 1, Nat.le_refl _, by rw [Int.sub_self, Int.mul_zero]; omega⟩
    · rw [if_neg c] at e
      refine ⟨j, by omega, ?_⟩
      rw [show ((i + 1 : Nat) : Int) - j = ((i : Int) - j) + 1 by omega, mul_s]
      omega
theorem isL_0 {u : TS} {K : Nat} : isL u K 0 (lvI u 0) := by
  refine ⟨fun k hk => ?_, 0, Nat.le_refl _, ?_⟩
  · have : k = 0 := by omega
    subst this
    rw [Int.sub_self, Int.mul_zero]
    omega
  · rw [Int.sub_self, Int.mul_zero]
    omega
theorem isR_last {u : TS} {N K : Nat} {r : Int} (hN : 0 < N) (h : isL u K (N - 1) r) : isR u N K (N - 1) r := by
  obtain ⟨h1, j, hj, ej⟩ := h
  have ed : ∀ k, k < N → dst (N - 1) k = ((N - 1 : Nat) : Int) - k := fun k hk => by
    unfold dst
    rw [if_pos (by omega)]
  refine ⟨fun k hk => ?_, j, by omega, ?_⟩
  · rw [ed k hk]
    exact h1 k (by omega)
  · rw [ed j (by omega)]
    exact ej
theorem isR_s {u : TS} {N K i : Nat} {r l r' : Int} (hK : 1 ≤ K) (hi : i + 1 < N) (h : isR u N K (i + 1) r) (hl : isL u K i l) (e : r' = if r - K < l then l else r - K) : isR u N K i r' := by
  obtain ⟨h1, j, hj, ej⟩ := h
  obtain ⟨l1, k, hk, ek⟩ := hl
  have dl : ∀ z, z ≤ i → dst i z = (i : Int) - z := fun z hz => by
    unfold dst
    rw [if_pos hz]
  have dr : ∀ z, i < z → dst i z = dst (i + 1) z + 1 := fun z hz => by
    unfold dst
    rw [if_neg (by omega)]
    by_cases c : z ≤ i + 1
    · rw [if_pos c]
      omega
    · rw [if_neg c]
      omega
  have dn : ∀ z, z ≤ i → dst (i + 1) z = ((i : Int) - z) + 1 := fun z hz => by
    unfold dst
    rw [if_pos (by omega)]
    omega
  refine ⟨fun z hz => ?_, ?_⟩
  · by_cases c : z ≤ i
    · rw [dl z c]
      have := l1 z c
      split at e <;> omega
    · rw [dr z (by omega), mul_s]
      have := h1 z hz
      split at e <;> omega
  · by_cases c : r - K < l
    · rw [if_pos c] at e
      exact ⟨k, by omega, by rw [dl k hk]; omega⟩
    · rw [if_neg c] at e
      by_cases c2 : j ≤ i
      · exfalso
        have := l1 j c2
        rw [dn j c2, mul_s] at ej
        omega
      · refine ⟨j, hj, ?_⟩
        rw [dr j (by omega), mul_s]
        omega
theorem sub_m1 (x : Int32) : x + (-1 : Int32) = x - 1 := (Int32.sub_eq_add_neg x 1).symm
theorem z_0 : (0 : Int32).toInt = 0 := rfl
theorem z_1 : (1 : Int32).toInt = 1 := rfl
theorem z_m : (-9999 : Int32).toInt = -9999 := rfl
theorem r_pass1 {fu : Nat} {u : TS} {v : TV} {N K : Nat} (hI : TI u) (hN : S_sl u = nI N) (hN1 : 10 ≤ N) (hN2 : N ≤ 60) (hK1 : 1 ≤ K) (hK2 : K ≤ 20) (hfu : 2000 ≤ fu) :
    ∃ x : Int32 × TV, lf_X2_findHeights_16 fu u (nI K) fu (-9999 : Int32) (0 : Int32) v = some x ∧ ∃ f, x.2 = V_he_ v f ∧ (∀ t, t < N → isL u K t (f t).toInt) ∧ x.1 = f (N - 1) := by
  refine lq_k3 (F := lb_X2_findHeights_16 fu u (nI K)) (fun d a1 a2 a3 => ∃ i f, d = N - i ∧ i ≤ N ∧ a2 = nI i ∧ a3 = V_he_ v f ∧ (∀ t, t < i → isL u K t (f t).toInt) ∧ (i = 0 → a1 = -9999) ∧ (0 < i → a1 = f (i - 1))) _ ?_ fu N (-9999) 0 v (by omega) ⟨0, V_he v, by omega, by omega, rfl, rfl, fun t ht => by omega, fun _ => rfl, fun h => by omega⟩
  rintro rec d a1 a2 a3 ⟨i, f, hd, hi, rfl, rfl, hL, h0, h1⟩ ih
  unfold lb_X2_findHeights_16
  rw [nm_d, hN]
  by_cases h : N ≤ i
  · rw [if_pos (n_le' (by omega) (by omega) h)]
    refine ⟨_, rfl, f, rfl, fun t ht => hL t (by omega), ?_⟩
    have e : i = N := by omega
    subst e
    exact h1 (by omega)
  · rw [if_neg (n_nle (by omega) (by omega) (by omega))]
    simp only [nm_d]
    rw [ix_n (by omega) (by omega), ix_n (by omega) (by omega), n_cl (by omega), n_p1]
    obtain ⟨l1, l2⟩ := hI.lv (k := i) (by omega)
    have new : isL u K i (if a1 - nI K < S_lv u i then S_lv u i else a1 - nI K).toInt := by
      rw [i_max]
      by_cases c : i = 0
      · subst c
        rw [h0 rfl, i_sub (by rw [n_ti (by omega), z_m]; omega) (by rw [n_ti (by omega), z_m]; omega), n_ti (by omega), z_m, if_pos (by omega)]
        exact isL_0
      · have hp := hL (i - 1) (by omega)
        obtain ⟨g1, g2⟩ := isL_rg hI (by omega) hp
        rw [← h1 (by omega)] at hp g1 g2
        have := isL_s (r' := if (a1 - nI K).toInt < (S_lv u i).toInt then (S_lv u i).toInt else (a1 - nI K).toInt) hp (by
          rw [i_sub (by rw [n_ti (by omega)]; omega) (by rw [n_ti (by omega)]; omega), n_ti (by omega), show i - 1 + 1 = i by omega]
          rfl)
        rw [show i - 1 + 1 = i by omega] at this
        exact this
    refine ih (N - (i + 1)) _ _ _ (by omega) ⟨i + 1, upd f i (if a1 - nI K < S_lv u i then S_lv u i else a1 - nI K), rfl, by omega, rfl, rfl, fun t ht => ?_, fun e => by omega, fun _ => ?_⟩
    · by_cases c : t = i
      · rw [c, pk_us]
        exact new
      · rw [pk_un c]
        exact hL t (by omega)
    · rw [show i + 1 - 1 = i by omega, pk_us]
theorem r_pass2 {fu : Nat} {u : TS} {v : TV} {N K : Nat} {f0 : Nat → Int32} (hI : TI u) (hN1 : 10 ≤ N) (hN2 : N ≤ 60) (hK1 : 1 ≤ K) (hK2 : K ≤ 20) (hfu : 2000 ≤ fu) (hf : ∀ t, t < N → isL u K t (f0 t).toInt) :
    ∃ x : TV, lf_X2_findHeights_66 fu (nI K) fu (f0 (N - 1)) (nI N - 1) (V_he_ v f0) = some x ∧ ∃ f, x = V_he_ v f ∧ ∀ t, t < N → isR u N K t (f t).toInt := by
  refine lq_k3 (F := lb_X2_findHeights_66 fu (nI K)) (fun d a1 a2 a3 => ∃ r f, d = r ∧ r ≤ N ∧ a2 = nI r - 1 ∧ a3 = V_he_ v f ∧ (∀ t, t < r → isL u K t (f t).toInt) ∧ (∀ t, r ≤ t → t < N → isR u N K t (f t).toInt) ∧ (r = N → a1 = f (N - 1)) ∧ (r < N → a1 = f r)) _ ?_ fu N _ _ _ (by omega) ⟨N, f0, rfl, by omega, rfl, rfl, hf, fun t h1 h2 => by omega, fun _ => rfl, fun h => by omega⟩
  rintro rec r a1 a2 a3 ⟨d, f, rfl, hr, rfl, rfl, hL, hR, h1, h2⟩ ih
  unfold lb_X2_findHeights_66
  by_cases h : r = 0
  · subst h
    rw [if_pos (by decide)]
    exact ⟨_, rfl, f, rfl, fun t ht => hR t (by omega) ht⟩
  · rw [n_m1 (by omega), if_neg (fun e => by rw [i_lt, n_ti (by omega), z_0] at e; omega)]
    simp only [nm_d]
    rw [ix_n (by omega) (by omega), ix_n (by omega) (by omega), n_cl (by omega), sub_m1]
    have hl := hL (r - 1) (by omega)
    obtain ⟨l1, l2⟩ := isL_rg hI (by omega) hl
    have new : isR u N K (r - 1) (if a1 - nI K < f (r - 1) then f (r - 1) else a1 - nI K).toInt := by
      rw [i_max]
      by_cases c : r = N
      · rw [h1 c, c, i_sub (by rw [n_ti (by omega), ← c]; omega) (by rw [n_ti (by omega), ← c]; omega), n_ti (by omega), if_pos (by omega)]
        rw [c] at hl
        exact isR_last (by omega) hl
      · have hp := hR r (Nat.le_refl r) (by omega)
        obtain ⟨g1, g2⟩ := isR_rg hI hN2 (by omega) hp
        rw [← h2 (by omega)] at hp g1 g2
        rw [show r = (r - 1) + 1 by omega] at hp
        refine isR_s hK1 (by omega) hp hl ?_
        rw [i_sub (by rw [n_ti (by omega)]; omega) (by rw [n_ti (by omega)]; omega), n_ti (by omega)]
    refine ih (r - 1) _ _ _ (by omega) ⟨r - 1, upd f (r - 1) (if a1 - nI K < f (r - 1) then f (r - 1) else a1 - nI K), rfl, by omega, rfl, rfl, fun t ht => ?_, fun t g1 g2 => ?_, fun e => by omega, fun _ => ?_⟩
    · rw [pk_un (by omega)]
      exact hL t (by omega)
    · by_cases c : t = r - 1
      · rw [c, pk_us]
        exact new
      · rw [pk_un c]
        exact hR t (by omega) g2
    · rw [pk_us]
      rfl
theorem r_heights {fu : Nat} {u : TS} {v : TV} {N K : Nat} (hI : TI u) (hN : S_sl u = nI N) (hN1 : 10 ≤ N) (hN2 : N ≤ 60) (hK : S_nu u 0 = nI K) (hK1 : 1 ≤ K) (hK2 : K ≤ 20) (hfu : 2000 ≤ fu) :
    ∃ f, f_X2_findHeights fu v u = some (V_he_ v f) ∧ ∀ t, t < N → isR u N K t (f t).toInt := by
  obtain ⟨x, e1, f, e2, hf, e3⟩ := r_pass1 (v := v) hI hN hN1 hN2 hK1 hK2 hfu
  obtain ⟨y, g1, f2, g2, hf2⟩ := r_pass2 (v := v) hI hN1 hN2 hK1 hK2 hfu hf
  refine ⟨f2, ?_, hf2⟩
  unfold f_X2_findHeights
  simp only [nm_d]
  rw [hK, e1, bd_s, e2, e3, hN, g1, bd_s, g2]
theorem i_abs {x : Int32} (h1 : -1000000 ≤ x.toInt) (h2 : x.toInt ≤ 1000000) : (if 0 ≤ x then x else 0 - x).toInt = if 0 ≤ x.toInt then x.toInt else -x.toInt := by
  by_cases h : 0 ≤ x
  · rw [if_pos h, if_pos (by rw [i_le, z_0] at h; exact h)]
  · rw [if_neg h, if_neg (by rw [i_le, z_0] at h; exact h), i_sub (by rw [z_0]; omega) (by rw [z_0]; omega), z_0]
    omega
theorem far_b {K : Nat} {d : Int} (hK : K ≤ 20) (h0 : 0 ≤ d) (h : d ≤ 60) : 0 ≤ (K : Int) * d ∧ (K : Int) * d ≤ 1200 := by
  refine ⟨Int.mul_nonneg (by omega) h0, ?_⟩
  have h1 : (K : Int) * d ≤ 20 * d := Int.mul_le_mul_of_nonneg_right (by omega) h0
  omega
/-- what a sleeper j gives at i -/
theorem far {u : TS} {K i j : Nat} (hI : TI u) (hK : K ≤ 20) (hi : i < 60) (hj : j < 60) : (S_lv u j - nI K * (if 0 ≤ nI i - nI j then nI i - nI j else 0 - (nI i - nI j))).toInt = lvI u j - K * dst i j := by
  have e1 : (nI i - nI j).toInt = (i : Int) - j := by
    rw [i_sub (by rw [n_ti (by omega), n_ti (by omega)]; omega) (by rw [n_ti (by omega), n_ti (by omega)]; omega), n_ti (by omega), n_ti (by omega)]
  have e2 : (if 0 ≤ nI i - nI j then nI i - nI j else 0 - (nI i - nI j)).toInt = dst i j := by
    rw [i_abs (by rw [e1]; omega) (by rw [e1]; omega), e1]
    unfold dst
    by_cases c : j ≤ i
    · rw [if_pos c, if_pos (by omega)]
    · rw [if_neg c, if_neg (by omega)]
      omega
  have hd : 0 ≤ dst i j ∧ dst i j ≤ 60 := by
    unfold dst
    split <;> omega
  obtain ⟨b1, b2⟩ := far_b hK hd.1 hd.2
  have e3 : (nI K * (if 0 ≤ nI i - nI j then nI i - nI j else 0 - (nI i - nI j))).toInt = K * dst i j := by
    rw [i_mul (by rw [e2, n_ti (by omega)]; omega) (by rw [e2, n_ti (by omega)]; omega), e2, n_ti (by omega)]
  obtain ⟨l1, l2⟩ := hI.lv hj
  rw [i_sub (by rw [e3]; omega) (by rw [e3]; omega), e3]
  rfl
theorem e_voidAt {fu : Nat} {v : TV} {u : TS} {i : Nat} (hi : i < 60) : f_X2_voidAt fu v u (nI i) = some (V_he v i - S_lv u i) := by
  unfold f_X2_voidAt
  rw [ix_n hi (by omega), nm_d, ix_n hi (by omega), n_cl (by omega)]
  rfl
/-- whether a sleeper hangs, as 0 or 1 -/
def hg (u : TS) (he : Nat → Int32) (j : Nat) : Int32 := if he j - S_lv u j ≤ S_nu u 1 then 0 else 1
def hgB (u : TS) (he : Nat → Int32) (j : Nat) : Bool := if he j - S_lv u j ≤ S_nu u 1 then false else true
theorem hg_bI (u : TS) (he : Nat → Int32) (j : Nat) : hg u he j = bI (hgB u he j) := by
  unfold hg hgB
  split <;> rfl
theorem hg_0 {u : TS} {he : Nat → Int32} {j : Nat} : hg u he j = 0 ↔ hgB u he j = false := by
  rw [hg_bI, bf]
def hc (u : TS) (he : Nat → Int32) : Nat → Int32
  | 0 => 0
  | k + 1 => if hgB u he k = false then hc u he k else hc u he k + 1
theorem e_findHanging {fu : Nat} {v : TV} {u : TS} {N : Nat} (hN : S_sl u = nI N) (hN2 : N ≤ 60) (hfu : 2000 ≤ fu) :
    f_X2_findHanging fu v u = some (V_hc_ (V_ha_ v (fl (hg u (V_he v)) (V_ha v) 0 N)) (hc u (V_he v) N)) := by
  have h := cp_loop2 (F := lb_X2_findHanging_7 fu u) N (fun k => nI k) (fun k => V_hc_ (V_ha_ v (fl (hg u (V_he v)) (V_ha v) 0 k)) (hc u (V_he v) k)) (V_hc_ (V_ha_ v (fl (hg u (V_he v)) (V_ha v) 0 N)) (hc u (V_he v) N)) (fun rec => by
    unfold lb_X2_findHanging_7
    rw [nm_d, hN, if_pos (n_le' (by omega) (by omega) (Nat.le_refl N))]) (fun rec k hk => by
    unfold lb_X2_findHanging_7
    rw [nm_d, hN, if_neg (n_nle (by omega) (by omega) hk), e_voidAt (by omega), bd_s, nm_d]
    simp only [jn_e, nm_d]
    have e := fl_s (hg u (V_he v)) (V_ha v) 0 k
    rw [Nat.zero_add] at e
    rw [ix_n (by omega) (by omega), ix_n (by omega) (by omega), ix_n (by omega) (by omega), ix_n (by omega) (by omega), n_cl (by omega), n_p1]
    rw [show V_he (V_hc_ (V_ha_ v (fl (hg u (V_he v)) (V_ha v) 0 k)) (hc u (V_he v) k)) = V_he v from rfl]
    by_cases c : V_he v k - S_lv u k ≤ S_nu u 1
    · have g0 : hg u (V_he v) k = 0 := if_pos c
      have g1 : hgB u (V_he v) k = false := if_pos c
      rw [if_pos c, show vp_nar .boolean (0 : Int32) = 0 from by decide, if_pos (show V_ha (V_ha_ (V_hc_ (V_ha_ v (fl (hg u (V_he v)) (V_ha v) 0 k)) (hc u (V_he v) k)) (upd (V_ha (V_hc_ (V_ha_ v (fl (hg u (V_he v)) (V_ha v) 0 k)) (hc u (V_he v) k))) k (0 : Int32))) k = 0 from pk_us)]
      show rec (nI (k + 1)) (V_hc_ (V_ha_ v (upd (fl (hg u (V_he v)) (V_ha v) 0 k) k 0)) (hc u (V_he v) k)) = rec (nI (k + 1)) (V_hc_ (V_ha_ v (fl (hg u (V_he v)) (V_ha v) 0 (k + 1))) (if hgB u (V_he v) k = false then hc u (V_he v) k else hc u (V_he v) k + 1))
      rw [if_pos g1, ← e, g0]
    · have g0 : hg u (V_he v) k = 1 := if_neg c
      have g1 : ¬ hgB u (V_he v) k = false := by unfold hgB; rw [if_neg c]; decide
      rw [if_neg c, show vp_nar .boolean (1 : Int32) = 1 from by decide, if_neg (show ¬ V_ha (V_ha_ (V_hc_ (V_ha_ v (fl (hg u (V_he v)) (V_ha v) 0 k)) (hc u (V_he v) k)) (upd (V_ha (V_hc_ (V_ha_ v (fl (hg u (V_he v)) (V_ha v) 0 k)) (hc u (V_he v) k))) k (1 : Int32))) k = 0 from fun h9 => absurd (pk_us.symm.trans h9) (by decide))]
      show rec (nI (k + 1)) (V_hc_ (V_ha_ v (upd (fl (hg u (V_he v)) (V_ha v) 0 k) k 1)) (hc u (V_he v) k + 1)) = rec (nI (k + 1)) (V_hc_ (V_ha_ v (fl (hg u (V_he v)) (V_ha v) 0 (k + 1))) (if hgB u (V_he v) k = false then hc u (V_he v) k else hc u (V_he v) k + 1))
      rw [if_neg g1, ← e, g0]) fu 0 (by omega) (by omega)
  rw [fl_0] at h
  unfold f_X2_findHanging
  rw [nm_d, show lf_X2_findHanging_7 fu u fu (0 : Int32) (V_hc_ v (0 : Int32)) = _ from h]
  rfl
def df (he : Nat → Int32) (N A i : Nat) : Int32 := if A ≤ i ∧ i + A < N then (2 : Int32) * he i - he (i - A) - he (i + A) else 0
theorem n_s {a b : Nat} (h : b ≤ a) : nI a - nI b = nI (a - b) := pk_sub h
theorem e_defectAt {fu : Nat} {v : TV} {u : TS} {N A i : Nat} (hN : S_sl u = nI N) (hN1 : 10 ≤ N) (hN2 : N ≤ 60) (hA : S_nu u 2 = nI A) (hA1 : 1 ≤ A) (hA2 : A ≤ 5) (hi : i < N) : f_X2_defectAt fu v u (nI i) = some (df (V_he v) N A i) := by
  unfold f_X2_defectAt
  simp only [nm_d, e_within, bd_s, bf, Bool.not_eq_false]
  rw [hA, hN, n_s (by omega), n_m1 (by omega), n_ti (by omega), n_ti (by omega), n_ti (by omega)]
  unfold df
  by_cases h : A ≤ i ∧ i + A < N
  · rw [if_pos (by rw [decide_eq_true_eq]; omega), if_pos h, ix_n (by omega) (by omega), n_s h.1, n_a, ix_n (by omega) (by omega), ix_n (by omega) (by omega), n_cl (by omega), n_cl (by omega), n_cl (by omega)]
  · rw [if_neg (by rw [decide_eq_true_eq]; omega), if_neg h]
def sz (x : Int32) : Int32 := if 0 ≤ x then x else 0 - x
def od (u : TS) (x : Int32) : Int32 := if S_nu u 3 < x then (if S_nu u 4 < x then (if S_nu u 5 < x then 3 else 2) else 1) else 0
theorem e_orderOf (fu : Nat) (v : TV) (u : TS) (x : Int32) : f_X2_orderOf fu v u x = some (od u x) := by
  unfold f_X2_orderOf od
  simp only [nm_d]
  by_cases h1 : S_nu u 3 < x
  · rw [if_pos h1, if_pos h1]
    by_cases h2 : S_nu u 4 < x
    · rw [if_pos h2, if_pos h2]
      by_cases h3 : S_nu u 5 < x
      · rw [if_pos h3, if_pos h3]
      · rw [if_neg h3, if_neg h3]
    · rw [if_neg h2, if_neg h2]
  · rw [if_neg h1, if_neg h1]
def oi (u : TS) (x : Int32) : Nat → Int32
  | 0 => 0
  | k + 1 => oi u x k + (if x ≤ S_nu u (3 + k) then 0 else 1)
theorem oi_3 {u : TS} {x : Int32} (hI : TI u) : oi u x 3 = od u x := by
  obtain ⟨-, -, -, ⟨l1, l2, l3, l4⟩, -⟩ := hI.nu
  show (((0 : Int32) + (if x ≤ S_nu u 3 then 0 else 1)) + (if x ≤ S_nu u 4 then 0 else 1)) + (if x ≤ S_nu u 5 then 0 else 1) = _
  unfold od
  by_cases h1 : S_nu u 3 < x
  · rw [if_pos h1, if_neg (by rw [i_le]; rw [i_lt] at h1; omega)]
    by_cases h2 : S_nu u 4 < x
    · rw [if_pos h2, if_neg (by rw [i_le]; rw [i_lt] at h2; omega)]
      by_cases h3 : S_nu u 5 < x
      · rw [if_pos h3, if_neg (by rw [i_le]; rw [i_lt] at h3; omega)]
        rfl
      · rw [if_neg h3, if_pos (by rw [i_le]; rw [i_lt] at h3; omega)]
        rfl
    · rw [if_neg h2, if_pos (by rw [i_le]; rw [i_lt] at h2; omega), if_pos (by rw [i_le]; rw [i_lt] at h2; omega)]
      rfl
  · rw [if_neg h1, if_pos (by rw [i_le]; rw [i_lt] at h1; omega), if_pos (by rw [i_le]; rw [i_lt] at h1; omega), if_pos (by rw [i_le]; rw [i_lt] at h1; omega)]
    rfl
/-- the worst of the first k, and its size -/
def wf (he : Nat → Int32) (N A : Nat) : Nat → Int32 × Int32
  | 0 => (0, 0)
  | k + 1 => if sz (df he N A k) ≤ (wf he N A k).2 then wf he N A k else (nI k, sz (df he N A k))
theorem e_findWorst {fu : Nat} {v : TV} {u : TS} {N A : Nat} (hN : S_sl u = nI N) (hN1 : 10 ≤ N) (hN2 : N ≤ 60) (hA : S_nu u 2 = nI A) (hA1 : 1 ≤ A) (hA2 : A ≤ 5) (hfu : 2000 ≤ fu) :
    f_X2_findWorst fu v u = some (V_ws_ (V_wo_ v (wf (V_he v) N A N).1) (wf (V_he v) N A N).2) := by
  have h := cp_loop2 (F := lb_X2_findWorst_12 fu u) N (fun k => nI k) (fun k => V_ws_ (V_wo_ v (wf (V_he v) N A k).1) (wf (V_he v) N A k).2) (V_ws_ (V_wo_ v (wf (V_he v) N A N).1) (wf (V_he v) N A N).2) (fun rec => by
    unfold lb_X2_findWorst_12
    rw [nm_d, hN, if_pos (n_le' (by omega) (by omega) (Nat.le_refl N))]) (fun rec k hk => by
    unfold lb_X2_findWorst_12
    rw [nm_d, hN, if_neg (n_nle (by omega) (by omega) hk), e_defectAt hN hN1 hN2 hA hA1 hA2 hk, bd_s]
    simp only [jn_e, nm_d]
    rw [n_p1]
    rw [show V_he (V_ws_ (V_wo_ v (wf (V_he v) N A k).1) (wf (V_he v) N A k).2) = V_he v from rfl, show V_ws (V_ws_ (V_wo_ v (wf (V_he v) N A k).1) (wf (V_he v) N A k).2) = (wf (V_he v) N A k).2 from rfl, show (if 0 ≤ df (V_he v) N A k then df (V_he v) N A k else 0 - df (V_he v) N A k) = sz (df (V_he v) N A k) from rfl]
    have w : wf (V_he v) N A (k + 1) = if sz (df (V_he v) N A k) ≤ (wf (V_he v) N A k).2 then wf (V_he v) N A k else (nI k, sz (df (V_he v) N A k)) := rfl
    rw [w]
    by_cases c : sz (df (V_he v) N A k) ≤ (wf (V_he v) N A k).2
    · rw [if_pos c, if_pos c]
    · rw [if_neg c, if_neg c]
      rfl) fu 0 (by omega) (by omega)
  unfold f_X2_findWorst
  rw [nm_d, nm_d, show lf_X2_findWorst_12 fu u fu (0 : Int32) (V_ws_ (V_wo_ v (0 : Int32)) (0 : Int32)) = _ from h]
  rfl
theorem od_v (u : TS) (x : Int32) : (od u x).toInt = if S_nu u 3 < x then (if S_nu u 4 < x then (if S_nu u 5 < x then 3 else 2) else 1) else 0 := by
  unfold od
  by_cases h1 : S_nu u 3 < x
  · rw [if_pos h1, if_pos h1]
    by_cases h2 : S_nu u 4 < x
    · rw [if_pos h2, if_pos h2]
      by_cases h3 : S_nu u 5 < x
      · rw [if_pos h3, if_pos h3]; rfl
      · rw [if_neg h3, if_neg h3]; rfl
    · rw [if_neg h2, if_neg h2]; rfl
  · rw [if_neg h1, if_neg h1]; rfl
theorem od_mono {u : TS} {x y : Int32} (h : x ≤ y) : (od u x).toInt ≤ (od u y).toInt := by
  rw [od_v, od_v]
  rw [i_le] at h
  simp only [i_lt]
  repeat' split
  all_goals omega
/-- what a look leaves -/
def lk (v : TV) (u : TS) (N A : Nat) (f : Nat → Int32) : TV := (f, V_lo v, fl (hg u f) (V_ha v) 0 N, hc u f N, (wf f N A N).1, (wf f N A N).2, od u (wf f N A N).2)
theorem r_look {fu : Nat} {v : TV} {u : TS} {N K A : Nat} (hI : TI u) (hN : S_sl u = nI N) (hN1 : 10 ≤ N) (hN2 : N ≤ 60) (hK : S_nu u 0 = nI K) (hK1 : 1 ≤ K) (hK2 : K ≤ 20) (hA : S_nu u 2 = nI A) (hA1 : 1 ≤ A) (hA2 : A ≤ 5) (hfu : 2000 ≤ fu) :
    ∃ f, f_X2_look fu v u = some (lk v u N A f) ∧ ∀ t, t < N → isR u N K t (f t).toInt := by
  obtain ⟨f, e1, hf⟩ := r_heights (v := v) hI hN hN1 hN2 hK hK1 hK2 hfu
  refine ⟨f, ?_, hf⟩
  unfold f_X2_look
  rw [e1, bd_s, e_findHanging hN hN2 hfu, bd_s, e_findWorst hN hN1 hN2 hA hA1 hA2 hfu, bd_s, nm_d, e_orderOf, bd_s, nm_d]
  rfl
/-- two rails of one track are one -/
theorem ra_eq {u : TS} {N K : Nat} {f g : Nat → Int32} (hf : ∀ t, t < N → isR u N K t (f t).toInt) (hg : ∀ t, t < N → isR u N K t (g t).toInt) : ∀ t, t < N → f t = g t := fun t ht => by
  rw [i_eq]
  exact isR_uniq (hf t ht) (hg t ht)
theorem hgB_c {u : TS} {f g : Nat → Int32} {k : Nat} (h : f k = g k) : hgB u f k = hgB u g k := by
  unfold hgB
  rw [h]
theorem hc_c {u : TS} {f g : Nat → Int32} {N : Nat} (h : ∀ t, t < N → f t = g t) : ∀ k, k ≤ N → hc u f k = hc u g k
  | 0, _ => rfl
  | k + 1, hk => by
    show (if hgB u f k = false then hc u f k else hc u f k + 1) = if hgB u g k = false then hc u g k else hc u g k + 1
    rw [hgB_c (h k (by omega)), hc_c h k (by omega)]
theorem df_c {f g : Nat → Int32} {N A i : Nat} (h : ∀ t, t < N → f t = g t) (hi : i < N) : df f N A i = df g N A i := by
  unfold df
  by_cases c : A ≤ i ∧ i + A < N
  · rw [if_pos c, if_pos c, h i hi, h (i - A) (by omega), h (i + A) c.2]
  · rw [if_neg c, if_neg c]
theorem wf_c {f g : Nat → Int32} {N A : Nat} (h : ∀ t, t < N → f t = g t) : ∀ k, k ≤ N → wf f N A k = wf g N A k
  | 0, _ => rfl
  | k + 1, hk => by
    show (if sz (df f N A k) ≤ (wf f N A k).2 then wf f N A k else (nI k, sz (df f N A k))) = if sz (df g N A k) ≤ (wf g N A k).2 then wf g N A k else (nI k, sz (df g N A k))
    rw [df_c h (by omega), wf_c h k (by omega)]
theorem wf_1 {he : Nat → Int32} {N A : Nat} : ∀ k, ∃ j, j ≤ k ∧ (wf he N A k).1 = nI j
  | 0 => ⟨0, Nat.le_refl 0, rfl⟩
  | k + 1 => by
    obtain ⟨j, hj, e⟩ := wf_1 (he := he) (N := N) (A := A) k
    show ∃ j, j ≤ k + 1 ∧ (if sz (df he N A k) ≤ (wf he N A k).2 then wf he N A k else (nI k, sz (df he N A k))).1 = nI j
    by_cases c : sz (df he N A k) ≤ (wf he N A k).2
    · rw [if_pos c]
      exact ⟨j, by omega, e⟩
    · rw [if_neg c]
      exact ⟨k, by omega, rfl⟩
/-- the reference's reason, of the first k -/
def yf (l : Int32) (he : Nat → Int32) (N A k : Nat) : Int32 × Int32 := if (wf he N A k).2 ≤ l then ((-100009 : Int32), l) else wf he N A k
theorem yf_s {l : Int32} {he : Nat → Int32} {N A k : Nat} : yf l he N A (k + 1) = if sz (df he N A k) ≤ (yf l he N A k).2 then yf l he N A k else (nI k, sz (df he N A k)) := by
  unfold yf
  have w : wf he N A (k + 1) = if sz (df he N A k) ≤ (wf he N A k).2 then wf he N A k else (nI k, sz (df he N A k)) := rfl
  rw [w]
  generalize sz (df he N A k) = x
  generalize wf he N A k = q
  by_cases c : q.2 ≤ l
  · rw [if_pos c]
    by_cases d : x ≤ l
    · rw [if_pos (show x ≤ ((-100009 : Int32), l).2 from d)]
      by_cases e : x ≤ q.2
      · rw [if_pos e, if_pos c]
      · rw [if_neg e, if_pos (show ((nI k, x) : Int32 × Int32).2 ≤ l from d)]
    · rw [if_neg (show ¬ x ≤ ((-100009 : Int32), l).2 from d), if_neg (show ¬ x ≤ q.2 from fun e => d (by rw [i_le] at e c ⊢; omega)), if_neg (show ¬ ((nI k, x) : Int32 × Int32).2 ≤ l from d)]
  · rw [if_neg c]
    by_cases e : x ≤ q.2
    · rw [if_pos e, if_neg c]
    · rw [if_neg e, if_neg (show ¬ ((nI k, x) : Int32 × Int32).2 ≤ l from fun d => by
        have d2 : x ≤ l := d
        rw [i_le] at c e d2
        omega)]
theorem r_great {fu : Nat} {v : TV} {u : TS} {N K i : Nat} (hI : TI u) (hN : S_sl u = nI N) (hN1 : 10 ≤ N) (hN2 : N ≤ 60) (hK : S_nu u 0 = nI K) (hK1 : 1 ≤ K) (hK2 : K ≤ 20) (hi : i < N) (hfu : 2000 ≤ fu) :
    ∃ r, f_X2_greatestOfAll fu v u (nI i) = some r ∧ isR u N K i r.toInt := by
  have key : ∃ x : Int32, lf_X2_greatestOfAll_12 fu u (nI i) fu (S_lv u i) (0 : Int32) = some x ∧ isR u N K i x.toInt := by
    refine lq_k2 (F := lb_X2_greatestOfAll_12 fu u (nI i)) (fun d a1 a2 => ∃ j, d = N - j ∧ j ≤ N ∧ a2 = nI j ∧ (∀ t, t < j → lvI u t - K * dst i t ≤ a1.toInt) ∧ ∃ t, t < N ∧ a1.toInt = lvI u t - K * dst i t) _ ?_ fu N _ 0 (by omega) ⟨0, by omega, by omega, rfl, fun t h => by omega, i, hi, ?_⟩
    · rintro rec d a1 a2 ⟨j, hd, hj, rfl, hg, t0, ht0, et0⟩ ih
      unfold lb_X2_greatestOfAll_12
      simp only [nm_d]
      rw [hN]
      by_cases h : N ≤ j
      · rw [if_pos (n_le' (by omega) (by omega) h)]
        exact ⟨_, rfl, fun t ht => hg t (by omega), t0, ht0, et0⟩
      · rw [if_neg (n_nle (by omega) (by omega) (by omega)), ix_n (by omega) (by omega), n_cl (by omega), n_p1, hK]
        have far1 := far (u := u) (K := K) (i := i) (j := j) hI hK2 (by omega) (by omega)
        refine ih (N - (j + 1)) _ _ (by omega) ⟨j + 1, rfl, by omega, rfl, fun t ht => ?_, ?_⟩
        · rw [i_max, far1]
          by_cases c : t < j
          · have := hg t c
            split <;> omega
          · have e : t = j := by omega
            subst e
            split <;> omega
        · rw [i_max, far1]
          by_cases c : a1.toInt < lvI u j - K * dst i j
          · rw [if_pos c]
            exact ⟨j, by omega, rfl⟩
          · rw [if_neg c]
            exact ⟨t0, ht0, et0⟩
    · have e0 : dst i i = 0 := by
        unfold dst
        rw [if_pos (Nat.le_refl i)]
        omega
      rw [e0, Int.mul_zero]
      unfold lvI
      omega
  obtain ⟨x, e, hx⟩ := key
  refine ⟨x, ?_, hx⟩
  unfold f_X2_greatestOfAll
  rw [ix_n (by omega) (by omega), nm_d, n_cl (by omega), e]
  rfl
