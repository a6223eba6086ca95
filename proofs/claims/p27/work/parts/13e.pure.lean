theorem cpk_n {a b c n0 n1 : Nat} (h0 : a + c ≤ n0) (h1 : b + c ≤ n1) (g0 : n0 < 2147483648) (g1 : n1 < 2147483648) : cpk (nI a) (nI b) (nI c) n0 n1 = true := by
  unfold cpk
  rw [n_cl (by omega), n_cl (by omega), n_cl (by omega), decide_eq_true (n_nneg a (by omega)), decide_eq_true (n_nneg b (by omega)), decide_eq_true (n_nneg c (by omega)), decide_eq_true h0, decide_eq_true h1]
  rfl
theorem e_jobV {fu : Nat} {u : TS} {r c : Nat} (h : 4 * r + c < 24) : f_X1_jobValue fu u (nI r) (nI c) = some (S_jr u (4 * r + c)) := by
  unfold f_X1_jobValue
  simp only [nm_d]
  rw [n_4m, n_a, ix_n h (by omega), n_cl (by omega)]
/-- a job dropped -/
def dU (u : TS) (j J : Nat) : TS := S_jb_ (S_jr_ u (va_cpy (S_jr u) (S_jr u) (4 * (j + 1)) (4 * j) (4 * J - 4 * (j + 1)))) (nI (J - 1))
theorem dU_jr {u : TS} {j J k : Nat} (hk : k < 4 * (J - 1)) : S_jr (dU u j J) k = if k < 4 * j then S_jr u k else S_jr u (k + 4) := by
  show va_cpy (S_jr u) (S_jr u) (4 * (j + 1)) (4 * j) (4 * J - 4 * (j + 1)) k = _
  unfold va_cpy
  by_cases c : k < 4 * j
  · rw [if_pos c, if_neg (by omega)]
  · rw [if_neg c, if_pos (by omega)]
    congr 1
    omega
theorem e_removeJob {fu : Nat} {u : TS} {j J : Nat} (hJ : S_jb u = nI J) (hJ6 : J ≤ 6) (hj : j < J) : f_X1_removeJob fu u (nI j) = some (dU u j J) := by
  unfold f_X1_removeJob
  simp only [nm_d]
  rw [hJ, n_p1, n_4m, n_4m, n_4m, n_s (by omega), rq_t (cpk_n (by omega) (by omega) (by omega) (by omega)), n_cl (by omega), n_cl (by omega), n_cl (by omega)]
  show some (S_jb_ (S_jr_ u _) (S_jb u - 1)) = _
  rw [hJ, n_m1 (by omega)]
  rfl
theorem TI_drop {u : TS} {j J : Nat} (h : TI u) (hJ : S_jb u = nI J) (hJ6 : J ≤ 6) (hj : j < J) : TI (dU u j J) := by
  obtain ⟨h0, h1, h2, h3, h4, h5⟩ := h
  refine ⟨h0, h1, h2, h3, ?_, fun i hi => ?_⟩
  · show rg (nI (J - 1)) 0 6
    unfold rg
    rw [n_ti (by omega)]
    omega
  · have hi2 : (i : Int) < (nI (J - 1)).toInt := hi
    rw [n_ti (by omega)] at hi2
    unfold JI
    rw [dU_jr (by omega), dU_jr (by omega), dU_jr (by omega), dU_jr (by omega)]
    by_cases c : i < j
    · rw [if_pos (by omega), if_pos (by omega), if_pos (by omega), if_pos (by omega)]
      exact h5 i (by rw [hJ, n_ti (by omega)]; omega)
    · rw [if_neg (by omega), if_neg (by omega), if_neg (by omega), if_neg (by omega)]
      have h6 := h5 (i + 1) (by rw [hJ, n_ti (by omega)]; omega)
      unfold JI at h6
      rw [show 4 * (i + 1) + 3 = 4 * i + 3 + 4 by omega, show 4 * (i + 1) + 1 = 4 * i + 1 + 4 by omega, show 4 * (i + 1) + 2 = 4 * i + 2 + 4 by omega, show 4 * (i + 1) = 4 * i + 4 by omega] at h6
      exact h6
def rmn (f : Nat → Int32) : Nat → Nat
  | 0 => 0
  | J + 1 => rmn f J + ((f (4 * J + 1)).toInt - (f (4 * J + 3)).toInt + 1).toNat
theorem rmn_shift {f g : Nat → Int32} : ∀ J : Nat, (∀ k, k < 4 * J → g k = f (k + 4)) → rmn f (J + 1) = ((f 1).toInt - (f 3).toInt + 1).toNat + rmn g J
  | 0, _ => by
    show 0 + ((f 1).toInt - (f 3).toInt + 1).toNat = ((f 1).toInt - (f 3).toInt + 1).toNat + 0
    omega
  | J + 1, h => by
    have ih := rmn_shift J (fun k hk => h k (by omega))
    show rmn f (J + 1) + ((f (4 * (J + 1) + 1)).toInt - (f (4 * (J + 1) + 3)).toInt + 1).toNat = ((f 1).toInt - (f 3).toInt + 1).toNat + (rmn g J + ((g (4 * J + 1)).toInt - (g (4 * J + 3)).toInt + 1).toNat)
    rw [ih, h (4 * J + 1) (by omega), h (4 * J + 3) (by omega), show 4 * (J + 1) + 1 = 4 * J + 1 + 4 by omega, show 4 * (J + 1) + 3 = 4 * J + 3 + 4 by omega]
    omega
theorem rmn_le {u : TS} (hI : TI u) {J : Nat} (hJ : S_jb u = nI J) (hJ6 : J ≤ 6) : ∀ j : Nat, j ≤ J → rmn (S_jr u) j ≤ 60 * j
  | 0, _ => Nat.le_refl 0
  | j + 1, hj => by
    have ih := rmn_le hI hJ hJ6 j (by omega)
    have h := hI.jr (j := j) (by rw [hJ, n_ti (by omega)]; omega)
    unfold JI at h
    obtain ⟨a1, a2⟩ := hI.sl
    show rmn (S_jr u) j + ((S_jr u (4 * j + 1)).toInt - (S_jr u (4 * j + 3)).toInt + 1).toNat ≤ 60 * (j + 1)
    omega
theorem TR_jr {u : TS} {s : Nat → Int32} {i : Nat} {x : Int32} (h : TR u s) (hi : i < 24) : TR (S_jr_ u (upd (S_jr u) i x)) (upd s (17 + i) x) := by
  obtain ⟨h0, h1, h2, h3, h4, h5, h6, h7, h8⟩ := h
  refine ⟨?_, fun k hk => ?_, fun k hk => ?_, ?_, fun k hk => ?_, fun k hk => ?_, fun k hk => ?_, fun k hk => ?_, fun k hk hj => ?_⟩
  · exact Eq.trans (h0) (pk_un (by omega)).symm
  · exact Eq.trans (h1 k hk) (pk_un (by omega)).symm
  · exact Eq.trans (h2 k hk) (pk_un (by omega)).symm
  · exact Eq.trans (h3) (pk_un (by omega)).symm
  · exact Eq.trans (h4 k hk) (pk_un (by omega)).symm
  · exact Eq.trans (h5 k hk) (pk_un (by omega)).symm
  · exact Eq.trans (h6 k hk) (pk_un (by omega)).symm
  · exact Eq.trans (h7 k hk) (pk_un (by omega)).symm
  · show upd (S_jr u) i x k = upd s (17 + i) x (17 + k)
    by_cases e : k = i
    · rw [e, pk_us, pk_us]
    · rw [pk_un e, pk_un (by omega)]; exact h8 k hk hj
/-- a lift -/
def raT (u : TS) (i : Nat) (l : Int32) : TS := S_fo_ (S_ac_ (S_li_ (S_lv_ u (upd (S_lv u) i (S_lv u i + l))) (upd (S_li u) i (S_li u i + l))) (upd (S_ac u) 1 (S_ac u 1 + l))) (upd (S_fo u) i (if S_fo u i + 3 < 100 then S_fo u i + 3 else 100))
theorem e_raise {fu : Nat} {u : TS} {i : Nat} {l : Int32} (hi : i < 60) : f_X1_raise fu u (nI i) l = some (raT u i l) := by
  unfold f_X1_raise f_X1_foul
  simp only [nm_d]
  rw [ix_n hi (by omega), ix_n hi (by omega), ix_n hi (by omega), ix_n hi (by omega), ix_n hi (by omega), ix_n hi (by omega), n_cl (by omega)]
  rfl
theorem TI_ra {u : TS} {i : Nat} {l : Int32} (h : TI u) (hi : i < 60) (hl : rg (S_lv u i + l) (-9999) 9999) : TI (raT u i l) := by
  have h1 := TI_lv (i := i) h hl
  have h2 : TI (S_ac_ (S_li_ (S_lv_ u (upd (S_lv u) i (S_lv u i + l))) (upd (S_li u) i (S_li u i + l))) (upd (S_ac u) 1 (S_ac u 1 + l))) := h1
  obtain ⟨f1, f2⟩ := h.fo hi
  have e3 : (S_fo u i + 3).toInt = (S_fo u i).toInt + 3 := i_add (show -2147483648 ≤ (S_fo u i).toInt + 3 by omega) (show (S_fo u i).toInt + 3 < 2147483648 by omega)
  refine TI_fo (i := i) h2 ?_
  unfold rg
  by_cases c : S_fo u i + 3 < 100
  · rw [if_pos c]
    rw [i_lt, show (100 : Int32).toInt = 100 from rfl] at c
    omega
  · rw [if_neg c, show (100 : Int32).toInt = 100 from rfl]
    omega
def mf (x : Int32) : Int32 := 2 + (x + 49) / 50
theorem e_mf4 (fu : Nat) (x : Int32) : f_X4_minutesFor fu x = some (mf x) := rfl
theorem e_liftA {fu : Nat} {u : TS} {i : Nat} {t : Int32} (hi : i < 60) (h : lft u i t < S_nu u 7) : f_X1_liftOf fu u (nI i) t = some 0 := by
  rw [e_liftOf hi, if_neg (by rw [i_le]; rw [i_lt] at h; omega)]
theorem e_liftB {fu : Nat} {u : TS} {i : Nat} {t : Int32} (hi : i < 60) (h : ¬ lft u i t < S_nu u 7) : f_X1_liftOf fu u (nI i) t = some (lft u i t) := by
  rw [e_liftOf hi, if_pos (by rw [i_le]; rw [i_lt] at h; omega)]
theorem lft_rg {u : TS} {i : Nat} {t : Int32} (hI : TI u) (hi : i < 60) (ht : rg t (-9999) 9999) (h : ¬ lft u i t < S_nu u 7) : 0 < (lft u i t).toInt ∧ rg (S_lv u i + lft u i t) (-9999) 9999 := by
  obtain ⟨t1, t2⟩ := ht
  obtain ⟨l1, l2⟩ := hI.lv hi
  obtain ⟨-, -, -, -, ⟨m1, m2⟩, ⟨k1, k2⟩⟩ := hI.nu
  have hd : (t - S_lv u i).toInt = t.toInt - (S_lv u i).toInt := i_sub (by omega) (by omega)
  have h1 : 0 < (lft u i t).toInt := by
    rw [i_lt] at h
    omega
  have h2 : (lft u i t).toInt ≤ t.toInt - (S_lv u i).toInt := by
    unfold lft
    by_cases c : S_nu u 6 < t - S_lv u i
    · rw [if_pos c]
      rw [i_lt, hd] at c
      omega
    · rw [if_neg c, hd]
      omega
  refine ⟨h1, ?_⟩
  unfold rg
  rw [i_add (by omega) (by omega)]
  omega
theorem back_eq (s s1 a : Nat → Int32) : ∀ k, k < 281 → fl (fl s a 0 281) s1 0 281 k = s k := fun k hk => by
  rw [fl_in0 hk, fl_in0 hk]
theorem i_addsub (a b : Int32) : a + b - a = b := by
  rw [Int32.add_comm, Int32.add_sub_cancel]
