theorem e_lesser (fu : Nat) (a b : Int32) : f_X5_lesser fu a b = some (if b ≤ a then b else a) := by
  unfold f_X5_lesser
  by_cases h : b ≤ a
  · rw [if_pos h, if_pos h]
  · rw [if_neg h, if_neg h]
def lft (u : TS) (i : Nat) (t : Int32) : Int32 := if S_nu u 6 < t - S_lv u i then S_nu u 6 else t - S_lv u i
theorem e_liftOf {fu : Nat} {u : TS} {i : Nat} {t : Int32} (hi : i < 60) : f_X1_liftOf fu u (nI i) t = some (if S_nu u 7 ≤ lft u i t then lft u i t else 0) := by
  unfold f_X1_liftOf
  simp only [nm_d]
  rw [ix_n hi (by omega), n_cl (by omega)]
  show (if S_nu u 7 ≤ lft u i t then some (lft u i t) else some 0) = _
  by_cases h : S_nu u 7 ≤ lft u i t
  · rw [if_pos h, if_pos h]
  · rw [if_neg h, if_neg h]
theorem e_liftOf5 {fu : Nat} {u : TS} {m : TM} {i : Nat} {t : Int32} (hT : TR u (M_ss m)) (hi : i < 60) : f_X5_liftOf fu m (nI i) t = some (lft u i t) := by
  unfold f_X5_liftOf
  simp only [nm_d, e_lesser, bd_s]
  rw [n_41, ix_n (by omega) (by omega), n_cl (by omega), ← hT.lv hi, show M_ss m 7 = S_nu u 6 from (hT.nu (k := 6) (by omega)).symm]
  unfold lft
  by_cases h : S_nu u 6 < t - S_lv u i
  · rw [if_pos h, if_pos (by rw [i_lt] at h; rw [i_le]; omega)]
  · rw [if_neg h]
    by_cases h2 : S_nu u 6 ≤ t - S_lv u i
    · rw [if_pos h2]
      have e : S_nu u 6 = t - S_lv u i := by rw [i_eq]; rw [i_lt] at h; rw [i_le] at h2; omega
      rw [e]
    · rw [if_neg h2]
theorem op_lifts {fu : Nat} : OP_lifts RR fu := by
  intro C m p t h
  obtain ⟨hT, hI, hH, hIm, hX⟩ := id h
  unfold f_X4_lifts f_X5_lifts
  simp only [e_has, e_isSleeper, e_isLevel, e_isLevel5, bd_s, bf, Bool.not_eq_false, nm_d]
  rw [← hT.sl]
  cases h1 : hs (S_sl (C_now C)) p with
  | false =>
    simp only [it_tt, it_ff, it_tf, it_ft, if_true, if_false]
    exact ⟨_, _, rfl, rfl, rfl, h.1, h.2.1, h.2.2.1, h.2.2.2.1, h.2.2.2.2⟩
  | true =>
    simp only [it_tt, it_ff, it_tf, it_ft, if_true, if_false]
    cases h2 : lvb t with
    | false =>
      simp only [it_tt, it_ff, it_tf, it_ft, if_true, if_false]
      exact ⟨_, _, rfl, rfl, rfl, h.1, h.2.1, h.2.2.1, h.2.2.2.1, h.2.2.2.2⟩
    | true =>
      simp only [it_tt, it_ff, it_tf, it_ft, if_true, if_false]
      obtain ⟨N, -, -, -, eN, hN1, hN2, -⟩ := hI.nat
      rw [eN] at h1
      obtain ⟨j, rfl, hj⟩ := hs_t h1 (by omega) (by omega)
      rw [e_liftOf5 hT (by omega), bd_s, e_liftOf (by omega), bd_s, ix_n (by omega) (by omega), n_41, ix_n (by omega) (by omega), n_cl (by omega), n_cl (by omega), ← hT.lv (by omega), show M_ss m 8 = S_nu (C_now C) 7 from (hT.nu (k := 7) (by omega)).symm]
      obtain ⟨t1, t2⟩ := lvb_t h2
      obtain ⟨l1, l2⟩ := hI.lv (k := j) (by omega)
      obtain ⟨-, -, -, -, ⟨m1, m2⟩, ⟨k1, k2⟩⟩ := hI.nu
      have hd : (t - S_lv (C_now C) j).toInt = t.toInt - (S_lv (C_now C) j).toInt := i_sub (by omega) (by omega)
      have z0 : (0 : Int32).toInt = 0 := rfl
      by_cases g1 : 0 < t - S_lv (C_now C) j
      · have g1' := g1
        rw [i_lt, z0, hd] at g1'
        have hl : 0 < lft (C_now C) j t := by
          unfold lft
          by_cases g2 : S_nu (C_now C) 6 < t - S_lv (C_now C) j
          · rw [if_pos g2, i_lt, z0]
            omega
          · rw [if_neg g2]
            exact g1
        rw [if_pos g1, if_pos hl]
        by_cases g3 : S_nu (C_now C) 7 ≤ lft (C_now C) j t
        · rw [if_pos g3, if_pos (fun e => by rw [e] at hl; exact absurd hl (by decide)), if_pos g3]
          unfold lft
          by_cases g2 : S_nu (C_now C) 6 < t - S_lv (C_now C) j
          · rw [if_pos g2, if_pos g2, if_pos (fun e => by rw [e, i_lt] at g2; omega)]
            exact ⟨_, _, rfl, rfl, rfl, h.1, h.2.1, h.2.2.1, h.2.2.2.1, h.2.2.2.2⟩
          · rw [if_neg g2, if_neg g2, if_neg (fun e => e rfl)]
            exact ⟨_, _, rfl, rfl, rfl, h.1, h.2.1, h.2.2.1, h.2.2.2.1, h.2.2.2.2⟩
        · rw [if_neg g3, if_neg (fun e => e rfl), if_neg g3]
          exact ⟨_, _, rfl, rfl, rfl, h.1, h.2.1, h.2.2.1, h.2.2.2.1, h.2.2.2.2⟩
      · have g1' := g1
        rw [i_lt, z0, hd] at g1'
        have hl : ¬ 0 < lft (C_now C) j t := by
          unfold lft
          rw [if_neg (by rw [i_lt, hd]; omega)]
          exact g1
        rw [if_neg g1, if_neg hl]
        exact ⟨_, _, rfl, rfl, rfl, h.1, h.2.1, h.2.2.1, h.2.2.2.1, h.2.2.2.2⟩
/-- one job more -/
def jr4 (f : Nat → Int32) (d : Nat) (a b t : Int32) : Nat → Int32 := upd (upd (upd (upd f d a) (d + 1) b) (d + 2) t) (d + 3) a
theorem jr4_0 {f : Nat → Int32} {d : Nat} {a b t : Int32} : jr4 f d a b t d = a ∧ jr4 f d a b t (d + 1) = b ∧ jr4 f d a b t (d + 2) = t ∧ jr4 f d a b t (d + 3) = a := by
  unfold jr4
  refine ⟨?_, ?_, ?_, ?_⟩
  · rw [pk_un (by omega), pk_un (by omega), pk_un (by omega), pk_us]
  · rw [pk_un (by omega), pk_un (by omega), pk_us]
  · rw [pk_un (by omega), pk_us]
  · rw [pk_us]
theorem jr4_n {f : Nat → Int32} {d k : Nat} {a b t : Int32} (h : k < d ∨ d + 4 ≤ k) : jr4 f d a b t k = f k := by
  unfold jr4
  rw [pk_un (by omega), pk_un (by omega), pk_un (by omega), pk_un (by omega)]
theorem e_appendJob {fu : Nat} {u : TS} {J : Nat} {a b t : Int32} (hJ : S_jb u = nI J) (hJ6 : J < 6) : f_X1_appendJob fu u a b t = some (S_jb_ (S_jr_ u (jr4 (S_jr u) (4 * J) a b t)) (nI (J + 1))) := by
  unfold f_X1_appendJob
  simp only [nm_d]
  rw [hJ, n_4m, n_p0, n_p1, n_p2, n_p3, ix_n (by omega) (by omega), ix_n (by omega) (by omega), ix_n (by omega) (by omega), ix_n (by omega) (by omega), n_cl (by omega), n_cl (by omega), n_cl (by omega), n_cl (by omega)]
  show some (S_jb_ (S_jr_ u (jr4 (S_jr u) (4 * J) a b t)) (S_jb u + 1)) = _
  rw [hJ, n_p1]
theorem op_addJob {fu : Nat} (hfu : 2000 ≤ fu) : OP_addJob RR fu := by
  intro C m p q t h
  obtain ⟨hT, hI, hH, hIm, hX⟩ := id h
  unfold f_X4_addJob f_X5_addJob
  simp only [e_stretch, e_isSleeper, e_isLevel, e_isLevel5, e_in, bd_s, bf, Bool.not_eq_false, nm_d]
  rw [← hT.sl, ← hT.jb]
  cases h1 : hs (S_sl (C_now C)) p with
  | false =>
    rw [if_pos (by rfl), if_pos rfl]
    exact ⟨_, _, rfl, rfl, rfl, h.1, h.2.1, h.2.2.1, h.2.2.2.1, h.2.2.2.2⟩
  | true =>
    rw [Bool.true_and]
    by_cases hb : p.toInt ≤ q.toInt ∧ q.toInt ≤ (S_sl (C_now C) - 1).toInt
    · rw [decide_eq_true hb]; simp only [it_tt, it_ff, it_tf, it_ft, if_true, if_false]
      cases h2 : lvb t with
      | false =>
        simp only [it_tt, it_ff, it_tf, it_ft, if_true, if_false]
        exact ⟨_, _, rfl, rfl, rfl, h.1, h.2.1, h.2.2.1, h.2.2.2.1, h.2.2.2.2⟩
      | true =>
        simp only [it_tt, it_ff, it_tf, it_ft, if_true, if_false]
        obtain ⟨b1, b2⟩ := hI.jb
        obtain ⟨J, eJ, eJ2, -⟩ := i_of (x := S_jb (C_now C)) (by omega)
        rw [eJ]
        by_cases h6 : J = 6
        · subst h6
          rw [if_neg (by decide), if_neg (by decide)]
          exact ⟨_, _, rfl, rfl, rfl, h.1, h.2.1, h.2.2.1, h.2.2.2.1, h.2.2.2.2⟩
        · rw [if_pos (show nI J < 6 from (n_lt (b := 6) (by omega) (by omega)).mpr (by omega)), if_pos (show ¬ nI J = 6 from fun e => h6 ((n_eq (b := 6) (by omega) (by omega)).mp e))]
          obtain ⟨N, -, -, -, eN, hN1, hN2, -⟩ := hI.nat
          rw [eN] at h1 hb
          obtain ⟨i, j, rfl, rfl, hij, hj⟩ := str_t h1 (by omega) (by omega) hb
          obtain ⟨h', q0, q1, q2, q3, q4, q5, pa', ps', s1, s2, hH'⟩ := r_save hfu hH hT hI
          rw [s1, bd_s, s2, bd_s, e_appendJob eJ (by omega), bd_s, show M_ss (M_ps_ (M_pa_ m pa') ps') 16 = nI J from hT.jb.symm.trans eJ, n_m4, n_17, n_p1, n_p2, n_p3, ix_n (by omega) (by omega), ix_n (by omega) (by omega), ix_n (by omega) (by omega), ix_n (by omega) (by omega), n_cl (by omega), n_cl (by omega), n_cl (by omega), n_cl (by omega)]
          have e16 : jr4 (M_ss m) (17 + 4 * J) (nI i) (nI j) t 16 + 1 = nI (J + 1) := by
            rw [jr4_n (by omega), show M_ss m 16 = nI J from hT.jb.symm.trans eJ, n_p1]
          have eA : upd (jr4 (M_ss m) (17 + 4 * J) (nI i) (nI j) t) 16 (jr4 (M_ss m) (17 + 4 * J) (nI i) (nI j) t 16 + 1) = upd (jr4 (M_ss m) (17 + 4 * J) (nI i) (nI j) t) 16 (nI (J + 1)) := by rw [e16]
          refine ⟨_, _, rfl, rfl, ?_, ?_, ?_, hH', hIm, hX⟩
          · show nI (J + 1) = upd (jr4 (M_ss m) (17 + 4 * J) (nI i) (nI j) t) 16 (jr4 (M_ss m) (17 + 4 * J) (nI i) (nI j) t 16 + 1) 16
            rw [pk_us, e16]
          · show TR (S_jb_ (S_jr_ (C_now C) (jr4 (S_jr (C_now C)) (4 * J) (nI i) (nI j) t)) (nI (J + 1))) (upd (jr4 (M_ss m) (17 + 4 * J) (nI i) (nI j) t) 16 (jr4 (M_ss m) (17 + 4 * J) (nI i) (nI j) t 16 + 1))
            rw [eA]
            obtain ⟨g0, g1, g2, g3, g4, g5, g6, g7, g8⟩ := hT
            refine ⟨?_, fun k hk => ?_, fun k hk => ?_, ?_, fun k hk => ?_, fun k hk => ?_, fun k hk => ?_, fun k hk => ?_, fun k hk hj => ?_⟩
            · rw [pk_un (by omega), jr4_n (by omega)]; exact g0
            · rw [pk_un (by omega), jr4_n (by omega)]; exact g1 k hk
            · rw [pk_un (by omega), jr4_n (by omega)]; exact g2 k hk
            · rw [pk_us]; rfl
            · rw [pk_un (by omega), jr4_n (by omega)]; exact g4 k hk
            · rw [pk_un (by omega), jr4_n (by omega)]; exact g5 k hk
            · rw [pk_un (by omega), jr4_n (by omega)]; exact g6 k hk
            · rw [pk_un (by omega), jr4_n (by omega)]; exact g7 k hk
            · have hj2 : (k : Int) < 4 * (nI (J + 1)).toInt := hj
              rw [n_ti (by omega)] at hj2
              rw [pk_un (by omega)]
              show jr4 (S_jr (C_now C)) (4 * J) (nI i) (nI j) t k = _
              obtain ⟨x0, x1, x2, x3⟩ := jr4_0 (f := S_jr (C_now C)) (d := 4 * J) (a := nI i) (b := nI j) (t := t)
              obtain ⟨y0, y1, y2, y3⟩ := jr4_0 (f := M_ss m) (d := 17 + 4 * J) (a := nI i) (b := nI j) (t := t)
              rcases (show k < 4 * J ∨ k = 4 * J ∨ k = 4 * J + 1 ∨ k = 4 * J + 2 ∨ k = 4 * J + 3 by omega) with e | e | e | e | e
              · rw [jr4_n (by omega), jr4_n (by omega)]
                exact g8 k hk (by omega)
              · subst e
                rw [x0, y0]
              · subst e
                rw [x1, ← Nat.add_assoc, y1]
              · subst e
                rw [x2, ← Nat.add_assoc, y2]
              · subst e
                rw [x3, ← Nat.add_assoc, y3]
          · obtain ⟨g0, g1, g2, g3, g4, g5⟩ := hI
            refine ⟨g0, g1, g2, g3, ?_, fun z hz => ?_⟩
            · show rg (nI (J + 1)) 0 6
              unfold rg
              rw [n_ti (by omega)]
              omega
            · have hz2 : (z : Int) < (nI (J + 1)).toInt := hz
              rw [n_ti (by omega)] at hz2
              unfold JI
              show 0 ≤ (jr4 (S_jr (C_now C)) (4 * J) (nI i) (nI j) t (4 * z)).toInt ∧ (jr4 (S_jr (C_now C)) (4 * J) (nI i) (nI j) t (4 * z)).toInt ≤ (jr4 (S_jr (C_now C)) (4 * J) (nI i) (nI j) t (4 * z + 3)).toInt ∧ (jr4 (S_jr (C_now C)) (4 * J) (nI i) (nI j) t (4 * z + 3)).toInt ≤ (jr4 (S_jr (C_now C)) (4 * J) (nI i) (nI j) t (4 * z + 1)).toInt ∧ (jr4 (S_jr (C_now C)) (4 * J) (nI i) (nI j) t (4 * z + 1)).toInt < (S_sl (C_now C)).toInt ∧ rg (jr4 (S_jr (C_now C)) (4 * J) (nI i) (nI j) t (4 * z + 2)) (-9999) 9999
              by_cases e : z = J
              · subst e
                obtain ⟨x0, x1, x2, x3⟩ := jr4_0 (f := S_jr (C_now C)) (d := 4 * z) (a := nI i) (b := nI j) (t := t)
                rw [x0, x1, x2, x3, eN, n_ti (by omega), n_ti (by omega), n_ti (by omega)]
                exact ⟨by omega, by omega, by omega, by omega, lvb_t h2⟩
              · rw [jr4_n (by omega), jr4_n (by omega), jr4_n (by omega), jr4_n (by omega)]
                exact g5 z (by omega)
    · rw [decide_eq_false hb]; simp only [it_tt, it_ff, it_tf, it_ft, if_true, if_false]
      exact ⟨_, _, rfl, rfl, rfl, h.1, h.2.1, h.2.2.1, h.2.2.2.1, h.2.2.2.2⟩
