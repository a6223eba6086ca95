/-! voids, defects, orders -/
theorem e_voidAt {fu : Nat} {v : TV} {u : TS} {i : Nat} (hi : i < 60) : f_X2_voidAt fu v u (nI i) = some (V_he v i - S_lv u i) := by
  unfold f_X2_voidAt
  rw [ix_n hi (by omega), nm_d, ix_n hi (by omega), n_cl (by omega)]
  rfl
theorem e_voidAt5 {fu : Nat} {m : TM} {u : TS} {i : Nat} (hT : TR u (M_ss m)) (hi : i < 60) : f_X5_voidAt fu m (nI i) = some (M_ra m i - S_lv u i) := by
  unfold f_X5_voidAt
  rw [ix_n hi (by omega), nm_d, nm_d, n_41, ix_n (by omega) (by omega), n_cl (by omega), n_cl (by omega), ← hT.lv hi]
  rfl
/-- whether a sleeper hangs, as 0 or 1 -/
def hg (u : TS) (he : Nat → Int32) (j : Nat) : Int32 := if he j - S_lv u j ≤ S_nu u 1 then 0 else 1
def hgB (u : TS) (he : Nat → Int32) (j : Nat) : Bool := if he j - S_lv u j ≤ S_nu u 1 then false else true
theorem hg_bI (u : TS) (he : Nat → Int32) (j : Nat) : hg u he j = bI (hgB u he j) := by
  unfold hg hgB
  split <;> rfl
theorem hg_0 {u : TS} {he : Nat → Int32} {j : Nat} : hg u he j = 0 ↔ hgB u he j = false := by
  rw [hg_bI, bf]
theorem e_hangs {fu : Nat} {m : TM} {u : TS} {i : Nat} (hT : TR u (M_ss m)) (hi : i < 60) : f_X5_hangs fu m (nI i) = some (hgB u (M_ra m) i) := by
  unfold f_X5_hangs
  rw [e_voidAt5 hT hi, bd_s, nm_d, show M_ss m 2 = S_nu u 1 from (hT.nu (k := 1) (by omega)).symm]
  unfold hgB
  by_cases h : M_ra m i - S_lv u i ≤ S_nu u 1
  · rw [if_pos h, if_pos h]
  · rw [if_neg h, if_neg h]
def hc (u : TS) (he : Nat → Int32) : Nat → Int32
  | 0 => 0
  | k + 1 => if hgB u he k = false then hc u he k else hc u he k + 1
theorem e_findHanging {fu : Nat} {v : TV} {u : TS} {N : Nat} (hN : S_sl u = nI N) (hN2 : N ≤ 60) (hfu : 2000 ≤ fu) :
    f_X2_findHanging fu v u = some (V_hc_ (V_ha_ v (fl (hg u (V_he v)) (V_ha v) 0 N)) (hc u (V_he v) N)) := by
  have h := cp_loop2 (F := lb_X2_findHanging_7 fu u) N (fun k => nI k) (fun k => V_hc_ (V_ha_ v (fl (hg u (V_he v)) (V_ha v) 0 k)) (hc u (V_he v) k)) (V_hc_ (V_ha_ v (fl (hg u (V_he v)) (V_ha v) 0 N)) (hc u (V_he v) N)) (fun rec => by
    unfold lb_X2_findHanging_7
    rw [nm_d, hN, if_pos (n_le' (by omega) (by omega) (Nat.le_refl N))]) (fun rec k hk => by
    unfold lb_X2_findHanging_7
    rw [nm_d, hN, if_neg (n_nle (by omega) (by omega) hk), e_voidAt (by omega), bd_s, nm_d]
    simp only [jn_e, nm_d]
    have e := fl_s (hg u (V_he v)) (V_ha v) 0 k
    rw [Nat.zero_add] at e
    rw [ix_n (by omega) (by omega), ix_n (by omega) (by omega), ix_n (by omega) (by omega), ix_n (by omega) (by omega), n_cl (by omega), n_p1]
    rw [show V_he (V_hc_ (V_ha_ v (fl (hg u (V_he v)) (V_ha v) 0 k)) (hc u (V_he v) k)) = V_he v from rfl]
    by_cases c : V_he v k - S_lv u k ≤ S_nu u 1
    · have g0 : hg u (V_he v) k = 0 := if_pos c
      have g1 : hgB u (V_he v) k = false := if_pos c
      rw [if_pos c, show vp_nar .boolean (0 : Int32) = 0 from by decide, if_pos (show V_ha (V_ha_ (V_hc_ (V_ha_ v (fl (hg u (V_he v)) (V_ha v) 0 k)) (hc u (V_he v) k)) (upd (V_ha (V_hc_ (V_ha_ v (fl (hg u (V_he v)) (V_ha v) 0 k)) (hc u (V_he v) k))) k (0 : Int32))) k = 0 from pk_us)]
      show rec (nI (k + 1)) (V_hc_ (V_ha_ v (upd (fl (hg u (V_he v)) (V_ha v) 0 k) k 0)) (hc u (V_he v) k)) = rec (nI (k + 1)) (V_hc_ (V_ha_ v (fl (hg u (V_he v)) (V_ha v) 0 (k + 1))) (if hgB u (V_he v) k = false then hc u (V_he v) k else hc u (V_he v) k + 1))
      rw [if_pos g1, ← e, g0]
    · have g0 : hg u (V_he v) k = 1 := if_neg c
      have g1 : ¬ hgB u (V_he v) k = false := by unfold hgB; rw [if_neg c]; decide
      rw [if_neg c, show vp_nar .boolean (1 : Int32) = 1 from by decide, if_neg (show ¬ V_ha (V_ha_ (V_hc_ (V_ha_ v (fl (hg u (V_he v)) (V_ha v) 0 k)) (hc u (V_he v) k)) (upd (V_ha (V_hc_ (V_ha_ v (fl (hg u (V_he v)) (V_ha v) 0 k)) (hc u (V_he v) k))) k (1 : Int32))) k = 0 from fun h9 => absurd (pk_us.symm.trans h9) (by decide))]
      show rec (nI (k + 1)) (V_hc_ (V_ha_ v (upd (fl (hg u (V_he v)) (V_ha v) 0 k) k 1)) (hc u (V_he v) k + 1)) = rec (nI (k + 1)) (V_hc_ (V_ha_ v (fl (hg u (V_he v)) (V_ha v) 0 (k + 1))) (if hgB u (V_he v) k = false then hc u (V_he v) k else hc u (V_he v) k + 1))
      rw [if_neg g1, ← e, g0]) fu 0 (by omega) (by omega)
  rw [fl_0] at h
  unfold f_X2_findHanging
  rw [nm_d, show lf_X2_findHanging_7 fu u fu (0 : Int32) (V_hc_ v (0 : Int32)) = _ from h]
  rfl
theorem e_hanging {fu : Nat} {m : TM} {u : TS} {N : Nat} (hT : TR u (M_ss m)) (hN : S_sl u = nI N) (hN2 : N ≤ 60) (hfu : 2000 ≤ fu) : f_X5_hanging fu m = some (hc u (M_ra m) N) := by
  have h := cp_loop2 (F := lb_X5_hanging_4 fu m) N (fun k => hc u (M_ra m) k) (fun k => nI k) (hc u (M_ra m) N) (fun rec => by
    unfold lb_X5_hanging_4
    rw [nm_d, show M_ss m 0 = nI N from hT.sl.symm.trans hN, if_pos (n_le' (by omega) (by omega) (Nat.le_refl N))]) (fun rec k hk => by
    unfold lb_X5_hanging_4
    rw [nm_d, show M_ss m 0 = nI N from hT.sl.symm.trans hN, if_neg (n_nle (by omega) (by omega) hk), e_hangs hT (by omega), bd_s]
    simp only [jn_e, nm_d, bf]
    rw [n_p1]
    show _ = rec (if hgB u (M_ra m) k = false then hc u (M_ra m) k else hc u (M_ra m) k + 1) (nI (k + 1))
    by_cases c : hgB u (M_ra m) k = false
    · rw [if_pos c, if_pos c, Int32.add_zero]
    · rw [if_neg c, if_neg c]) fu 0 (by omega) (by omega)
  unfold f_X5_hanging
  rw [show lf_X5_hanging_4 fu m fu (0 : Int32) (0 : Int32) = _ from h]
  rfl
def df (he : Nat → Int32) (N A i : Nat) : Int32 := if A ≤ i ∧ i + A < N then (2 : Int32) * he i - he (i - A) - he (i + A) else 0
theorem n_s {a b : Nat} (h : b ≤ a) : nI a - nI b = nI (a - b) := pk_sub h
theorem e_defectAt {fu : Nat} {v : TV} {u : TS} {N A i : Nat} (hN : S_sl u = nI N) (hN1 : 10 ≤ N) (hN2 : N ≤ 60) (hA : S_nu u 2 = nI A) (hA1 : 1 ≤ A) (hA2 : A ≤ 5) (hi : i < N) : f_X2_defectAt fu v u (nI i) = some (df (V_he v) N A i) := by
  unfold f_X2_defectAt
  simp only [nm_d, e_within, bd_s, bf, Bool.not_eq_false]
  rw [hA, hN, n_s (by omega), n_m1 (by omega), n_ti (by omega), n_ti (by omega), n_ti (by omega)]
  unfold df
  by_cases h : A ≤ i ∧ i + A < N
  · rw [if_pos (by rw [decide_eq_true_eq]; omega), if_pos h, ix_n (by omega) (by omega), n_s h.1, n_a, ix_n (by omega) (by omega), ix_n (by omega) (by omega), n_cl (by omega), n_cl (by omega), n_cl (by omega)]
  · rw [if_neg (by rw [decide_eq_true_eq]; omega), if_neg h]
theorem e_defect {fu : Nat} {m : TM} {u : TS} {N A i : Nat} (hT : TR u (M_ss m)) (hN : S_sl u = nI N) (hN1 : 10 ≤ N) (hN2 : N ≤ 60) (hA : S_nu u 2 = nI A) (hA1 : 1 ≤ A) (hA2 : A ≤ 5) (hi : i < N) : f_X5_defect fu m (nI i) = some (df (M_ra m) N A i) := by
  unfold f_X5_defect
  simp only [nm_d]
  rw [show M_ss m 3 = nI A from (hT.nu (k := 2) (by omega)).symm.trans hA, show M_ss m 0 = nI N from hT.sl.symm.trans hN, n_s (by omega)]
  unfold df
  by_cases h : i < A
  · rw [if_pos ((n_lt (by omega) (by omega)).mpr h), if_neg (by omega)]
  · rw [if_neg (fun e => h ((n_lt (by omega) (by omega)).mp e))]
    by_cases h2 : i < N - A
    · rw [if_pos ((n_lt (by omega) (by omega)).mpr h2), if_pos (by omega), ix_n (by omega) (by omega), n_s (by omega), n_a, ix_n (by omega) (by omega), ix_n (by omega) (by omega), n_cl (by omega), n_cl (by omega), n_cl (by omega)]
    · rw [if_neg (fun e => h2 ((n_lt (by omega) (by omega)).mp e)), if_neg (by omega)]
def sz (x : Int32) : Int32 := if 0 ≤ x then x else 0 - x
def od (u : TS) (x : Int32) : Int32 := if S_nu u 3 < x then (if S_nu u 4 < x then (if S_nu u 5 < x then 3 else 2) else 1) else 0
theorem e_orderOf (fu : Nat) (v : TV) (u : TS) (x : Int32) : f_X2_orderOf fu v u x = some (od u x) := by
  unfold f_X2_orderOf od
  simp only [nm_d]
  by_cases h1 : S_nu u 3 < x
  · rw [if_pos h1, if_pos h1]
    by_cases h2 : S_nu u 4 < x
    · rw [if_pos h2, if_pos h2]
      by_cases h3 : S_nu u 5 < x
      · rw [if_pos h3, if_pos h3]
      · rw [if_neg h3, if_neg h3]
    · rw [if_neg h2, if_neg h2]
  · rw [if_neg h1, if_neg h1]
def oi (u : TS) (x : Int32) : Nat → Int32
  | 0 => 0
  | k + 1 => oi u x k + (if x ≤ S_nu u (3 + k) then 0 else 1)
theorem oi_3 {u : TS} {x : Int32} (hI : TI u) : oi u x 3 = od u x := by
  obtain ⟨-, -, -, ⟨l1, l2, l3, l4⟩, -⟩ := hI.nu
  show (((0 : Int32) + (if x ≤ S_nu u 3 then 0 else 1)) + (if x ≤ S_nu u 4 then 0 else 1)) + (if x ≤ S_nu u 5 then 0 else 1) = _
  unfold od
  by_cases h1 : S_nu u 3 < x
  · rw [if_pos h1, if_neg (by rw [i_le]; rw [i_lt] at h1; omega)]
    by_cases h2 : S_nu u 4 < x
    · rw [if_pos h2, if_neg (by rw [i_le]; rw [i_lt] at h2; omega)]
      by_cases h3 : S_nu u 5 < x
      · rw [if_pos h3, if_neg (by rw [i_le]; rw [i_lt] at h3; omega)]
        rfl
      · rw [if_neg h3, if_pos (by rw [i_le]; rw [i_lt] at h3; omega)]
        rfl
    · rw [if_neg h2, if_pos (by rw [i_le]; rw [i_lt] at h2; omega), if_pos (by rw [i_le]; rw [i_lt] at h2; omega)]
      rfl
  · rw [if_neg h1, if_pos (by rw [i_le]; rw [i_lt] at h1; omega), if_pos (by rw [i_le]; rw [i_lt] at h1; omega), if_pos (by rw [i_le]; rw [i_lt] at h1; omega)]
    rfl
theorem e_orderAt {fu : Nat} {m : TM} {u : TS} {N A i : Nat} (hT : TR u (M_ss m)) (hI : TI u) (hN : S_sl u = nI N) (hN1 : 10 ≤ N) (hN2 : N ≤ 60) (hA : S_nu u 2 = nI A) (hA1 : 1 ≤ A) (hA2 : A ≤ 5) (hfu : 2000 ≤ fu) (hi : i < N) : f_X5_orderAt fu m (nI i) = some (od u (sz (df (M_ra m) N A i))) := by
  unfold f_X5_orderAt
  rw [e_defect hT hN hN1 hN2 hA hA1 hA2 hi, bd_s, e_size, bd_s, show (if 0 ≤ df (M_ra m) N A i then df (M_ra m) N A i else 0 - df (M_ra m) N A i) = sz (df (M_ra m) N A i) from rfl]
  generalize sz (df (M_ra m) N A i) = x
  have h := cp_loop2 (F := lb_X5_orderAt_14 fu m x) 3 (fun k => oi u x k) (fun k => nI k) (oi u x 3) (fun rec => by
    unfold lb_X5_orderAt_14
    exact if_pos (by decide)) (fun rec k hk => by
    unfold lb_X5_orderAt_14
    rw [if_neg (show ¬ (3 : Int32) ≤ nI k from n_nle (a := 3) (by omega) (by omega) hk)]
    simp only [nm_d, jn_e]
    rw [n_4, ix_n (by omega) (by omega), n_cl (by omega), n_p1, show M_ss m (4 + k) = S_nu u (3 + k) from by rw [hT.nu (k := 3 + k) (by omega)]; congr 1; omega]
    show _ = rec (oi u x k + (if x ≤ S_nu u (3 + k) then 0 else 1)) (nI (k + 1))
    by_cases c : x ≤ S_nu u (3 + k)
    · rw [if_pos c, if_pos c]
    · rw [if_neg c, if_neg c]) fu 0 (by omega) (by omega)
  rw [show lf_X5_orderAt_14 fu m x fu (0 : Int32) (0 : Int32) = _ from h, bd_s, oi_3 hI]
/-- the worst of the first k, and its size -/
def wf (he : Nat → Int32) (N A : Nat) : Nat → Int32 × Int32
  | 0 => (0, 0)
  | k + 1 => if sz (df he N A k) ≤ (wf he N A k).2 then wf he N A k else (nI k, sz (df he N A k))
theorem e_findWorst {fu : Nat} {v : TV} {u : TS} {N A : Nat} (hN : S_sl u = nI N) (hN1 : 10 ≤ N) (hN2 : N ≤ 60) (hA : S_nu u 2 = nI A) (hA1 : 1 ≤ A) (hA2 : A ≤ 5) (hfu : 2000 ≤ fu) :
    f_X2_findWorst fu v u = some (V_ws_ (V_wo_ v (wf (V_he v) N A N).1) (wf (V_he v) N A N).2) := by
  have h := cp_loop2 (F := lb_X2_findWorst_12 fu u) N (fun k => nI k) (fun k => V_ws_ (V_wo_ v (wf (V_he v) N A k).1) (wf (V_he v) N A k).2) (V_ws_ (V_wo_ v (wf (V_he v) N A N).1) (wf (V_he v) N A N).2) (fun rec => by
    unfold lb_X2_findWorst_12
    rw [nm_d, hN, if_pos (n_le' (by omega) (by omega) (Nat.le_refl N))]) (fun rec k hk => by
    unfold lb_X2_findWorst_12
    rw [nm_d, hN, if_neg (n_nle (by omega) (by omega) hk), e_defectAt hN hN1 hN2 hA hA1 hA2 hk, bd_s]
    simp only [jn_e, nm_d]
    rw [n_p1]
    rw [show V_he (V_ws_ (V_wo_ v (wf (V_he v) N A k).1) (wf (V_he v) N A k).2) = V_he v from rfl, show V_ws (V_ws_ (V_wo_ v (wf (V_he v) N A k).1) (wf (V_he v) N A k).2) = (wf (V_he v) N A k).2 from rfl, show (if 0 ≤ df (V_he v) N A k then df (V_he v) N A k else 0 - df (V_he v) N A k) = sz (df (V_he v) N A k) from rfl]
    have w : wf (V_he v) N A (k + 1) = if sz (df (V_he v) N A k) ≤ (wf (V_he v) N A k).2 then wf (V_he v) N A k else (nI k, sz (df (V_he v) N A k)) := rfl
    rw [w]
    by_cases c : sz (df (V_he v) N A k) ≤ (wf (V_he v) N A k).2
    · rw [if_pos c, if_pos c]
    · rw [if_neg c, if_neg c]
      rfl) fu 0 (by omega) (by omega)
  unfold f_X2_findWorst
  rw [nm_d, nm_d, show lf_X2_findWorst_12 fu u fu (0 : Int32) (V_ws_ (V_wo_ v (0 : Int32)) (0 : Int32)) = _ from h]
  rfl
theorem od_v (u : TS) (x : Int32) : (od u x).toInt = if S_nu u 3 < x then (if S_nu u 4 < x then (if S_nu u 5 < x then 3 else 2) else 1) else 0 := by
  unfold od
  by_cases h1 : S_nu u 3 < x
  · rw [if_pos h1, if_pos h1]
    by_cases h2 : S_nu u 4 < x
    · rw [if_pos h2, if_pos h2]
      by_cases h3 : S_nu u 5 < x
      · rw [if_pos h3, if_pos h3]; rfl
      · rw [if_neg h3, if_neg h3]; rfl
    · rw [if_neg h2, if_neg h2]; rfl
  · rw [if_neg h1, if_neg h1]; rfl
theorem od_mono {u : TS} {x y : Int32} (h : x ≤ y) : (od u x).toInt ≤ (od u y).toInt := by
  rw [od_v, od_v]
  rw [i_le] at h
  simp only [i_lt]
  repeat' split
  all_goals omega
theorem e_order {fu : Nat} {m : TM} {u : TS} {N A : Nat} (hT : TR u (M_ss m)) (hI : TI u) (hN : S_sl u = nI N) (hN1 : 10 ≤ N) (hN2 : N ≤ 60) (hA : S_nu u 2 = nI A) (hA1 : 1 ≤ A) (hA2 : A ≤ 5) (hfu : 2000 ≤ fu) : f_X5_order fu m = some (od u (wf (M_ra m) N A N).2) := by
  have h := cp_loop2 (F := lb_X5_order_4 fu m) N (fun k => od u (wf (M_ra m) N A k).2) (fun k => nI k) (od u (wf (M_ra m) N A N).2) (fun rec => by
    unfold lb_X5_order_4
    rw [nm_d, show M_ss m 0 = nI N from hT.sl.symm.trans hN, if_pos (n_le' (by omega) (by omega) (Nat.le_refl N))]) (fun rec k hk => by
    unfold lb_X5_order_4
    rw [nm_d, show M_ss m 0 = nI N from hT.sl.symm.trans hN, if_neg (n_nle (by omega) (by omega) hk), e_orderAt hT hI hN hN1 hN2 hA hA1 hA2 hfu hk, bd_s, e_greater, bd_s, nm_d, n_p1]
    have w : wf (M_ra m) N A (k + 1) = if sz (df (M_ra m) N A k) ≤ (wf (M_ra m) N A k).2 then wf (M_ra m) N A k else (nI k, sz (df (M_ra m) N A k)) := rfl
    rw [w]
    generalize sz (df (M_ra m) N A k) = x
    generalize wf (M_ra m) N A k = q
    have e : (if od u q.2 < od u x then od u x else od u q.2) = od u (if x ≤ q.2 then q else (nI k, x)).2 := by
      by_cases c : x ≤ q.2
      · have := od_mono (u := u) c
        rw [if_pos c, if_neg (by rw [i_lt]; omega)]
      · have := od_mono (u := u) (show q.2 ≤ x from by rw [i_le]; rw [i_le] at c; omega)
        rw [if_neg c]
        by_cases d : od u q.2 < od u x
        · rw [if_pos d]
        · rw [if_neg d, i_eq]
          rw [i_lt] at d
          show (od u q.2).toInt = (od u x).toInt
          omega
    rw [e]) fu 0 (by omega) (by omega)
  unfold f_X5_order
  have z : od u (wf (M_ra m) N A 0).2 = 0 := by
    obtain ⟨-, -, -, ⟨l1, l2, l3, l4⟩, -⟩ := hI.nu
    show od u 0 = 0
    unfold od
    rw [if_neg (by rw [i_lt, z_0]; omega)]
  have h2 : lq_2 (lb_X5_order_4 fu m) fu (od u (wf (M_ra m) N A 0).2) (nI 0) = some (od u (wf (M_ra m) N A N).2) := h
  rw [z] at h2
  rw [show lf_X5_order_4 fu m fu (0 : Int32) (0 : Int32) = _ from h2]
  rfl
/-- what a look leaves -/
def lk (v : TV) (u : TS) (N A : Nat) (f : Nat → Int32) : TV := (f, V_lo v, fl (hg u f) (V_ha v) 0 N, hc u f N, (wf f N A N).1, (wf f N A N).2, od u (wf f N A N).2)
theorem r_look {fu : Nat} {v : TV} {u : TS} {N K A : Nat} (hI : TI u) (hN : S_sl u = nI N) (hN1 : 10 ≤ N) (hN2 : N ≤ 60) (hK : S_nu u 0 = nI K) (hK1 : 1 ≤ K) (hK2 : K ≤ 20) (hA : S_nu u 2 = nI A) (hA1 : 1 ≤ A) (hA2 : A ≤ 5) (hfu : 2000 ≤ fu) :
    ∃ f, f_X2_look fu v u = some (lk v u N A f) ∧ ∀ t, t < N → isR u N K t (f t).toInt := by
  obtain ⟨f, e1, hf⟩ := r_heights (v := v) hI hN hN1 hN2 hK hK1 hK2 hfu
  refine ⟨f, ?_, hf⟩
  unfold f_X2_look
  rw [e1, bd_s, e_findHanging hN hN2 hfu, bd_s, e_findWorst hN hN1 hN2 hA hA1 hA2 hfu, bd_s, nm_d, e_orderOf, bd_s, nm_d]
  rfl
/-- two rails of one track are one -/
theorem ra_eq {u : TS} {N K : Nat} {f g : Nat → Int32} (hf : ∀ t, t < N → isR u N K t (f t).toInt) (hg : ∀ t, t < N → isR u N K t (g t).toInt) : ∀ t, t < N → f t = g t := fun t ht => by
  rw [i_eq]
  exact isR_uniq (hf t ht) (hg t ht)
theorem hgB_c {u : TS} {f g : Nat → Int32} {k : Nat} (h : f k = g k) : hgB u f k = hgB u g k := by
  unfold hgB
  rw [h]
theorem hc_c {u : TS} {f g : Nat → Int32} {N : Nat} (h : ∀ t, t < N → f t = g t) : ∀ k, k ≤ N → hc u f k = hc u g k
  | 0, _ => rfl
  | k + 1, hk => by
    show (if hgB u f k = false then hc u f k else hc u f k + 1) = if hgB u g k = false then hc u g k else hc u g k + 1
    rw [hgB_c (h k (by omega)), hc_c h k (by omega)]
theorem df_c {f g : Nat → Int32} {N A i : Nat} (h : ∀ t, t < N → f t = g t) (hi : i < N) : df f N A i = df g N A i := by
  unfold df
  by_cases c : A ≤ i ∧ i + A < N
  · rw [if_pos c, if_pos c, h i hi, h (i - A) (by omega), h (i + A) c.2]
  · rw [if_neg c, if_neg c]
theorem wf_c {f g : Nat → Int32} {N A : Nat} (h : ∀ t, t < N → f t = g t) : ∀ k, k ≤ N → wf f N A k = wf g N A k
  | 0, _ => rfl
  | k + 1, hk => by
    show (if sz (df f N A k) ≤ (wf f N A k).2 then wf f N A k else (nI k, sz (df f N A k))) = if sz (df g N A k) ≤ (wf g N A k).2 then wf g N A k else (nI k, sz (df g N A k))
    rw [df_c h (by omega), wf_c h k (by omega)]
