/-! the machine -/
def rmn (f : Nat → Int32) : Nat → Nat
  | 0 => 0
  | J + 1 => rmn f J + ((f (4 * J + 1)).toInt - (f (4 * J + 3)).toInt + 1).toNat
theorem rmn_shift {f g : Nat → Int32} : ∀ J : Nat, (∀ k, k < 4 * J → g k = f (k + 4)) → rmn f (J + 1) = ((f 1).toInt - (f 3).toInt + 1).toNat + rmn g J
  | 0, _ => by
    show 0 + ((f 1).toInt - (f 3).toInt + 1).toNat = ((f 1).toInt - (f 3).toInt + 1).toNat + 0
    omega
  | J + 1, h => by
    have ih := rmn_shift J (fun k hk => h k (by omega))
    show rmn f (J + 1) + ((f (4 * (J + 1) + 1)).toInt - (f (4 * (J + 1) + 3)).toInt + 1).toNat = ((f 1).toInt - (f 3).toInt + 1).toNat + (rmn g J + ((g (4 * J + 1)).toInt - (g (4 * J + 3)).toInt + 1).toNat)
    rw [ih, h (4 * J + 1) (by omega), h (4 * J + 3) (by omega), show 4 * (J + 1) + 1 = 4 * J + 1 + 4 by omega, show 4 * (J + 1) + 3 = 4 * J + 3 + 4 by omega]
    omega
theorem rmn_le {u : TS} (hI : TI u) {J : Nat} (hJ : S_jb u = nI J) (hJ6 : J ≤ 6) : ∀ j : Nat, j ≤ J → rmn (S_jr u) j ≤ 60 * j
  | 0, _ => Nat.le_refl 0
  | j + 1, hj => by
    have ih := rmn_le hI hJ hJ6 j (by omega)
    have h := hI.jr (j := j) (by rw [hJ, n_ti (by omega)]; omega)
    unfold JI at h
    obtain ⟨a1, a2⟩ := hI.sl
    show rmn (S_jr u) j + ((S_jr u (4 * j + 1)).toInt - (S_jr u (4 * j + 3)).toInt + 1).toNat ≤ 60 * (j + 1)
    omega
theorem TR_jr {u : TS} {s : Nat → Int32} {i : Nat} {x : Int32} (h : TR u s) (hi : i < 24) : TR (S_jr_ u (upd (S_jr u) i x)) (upd s (17 + i) x) := by
  obtain ⟨h0, h1, h2, h3, h4, h5, h6, h7, h8⟩ := h
  refine ⟨?_, fun k hk => ?_, fun k hk => ?_, ?_, fun k hk => ?_, fun k hk => ?_, fun k hk => ?_, fun k hk => ?_, fun k hk hj => ?_⟩
  · exact Eq.trans (h0) (pk_un (by omega)).symm
  · exact Eq.trans (h1 k hk) (pk_un (by omega)).symm
  · exact Eq.trans (h2 k hk) (pk_un (by omega)).symm
  · exact Eq.trans (h3) (pk_un (by omega)).symm
  · exact Eq.trans (h4 k hk) (pk_un (by omega)).symm
  · exact Eq.trans (h5 k hk) (pk_un (by omega)).symm
  · exact Eq.trans (h6 k hk) (pk_un (by omega)).symm
  · exact Eq.trans (h7 k hk) (pk_un (by omega)).symm
  · show upd (S_jr u) i x k = upd s (17 + i) x (17 + k)
    by_cases e : k = i
    · rw [e, pk_us, pk_us]
    · rw [pk_un e, pk_un (by omega)]; exact h8 k hk hj
theorem r_go {fu : Nat} {u : TS} {m : TM} {J : Nat} (hT : TR u (M_ss m)) (hI : TI u) (hJ : S_jb u = nI J) (hJ1 : 1 ≤ J) (hJ6 : J ≤ 6) (hfu : 2000 ≤ fu) :
    ∃ u2 s2 J2, f_X1_goOn fu u = some u2 ∧ (∀ (X : Type) (R : TM → Option X), (bd (f_X5_jobOf fu (M_ss_ m (upd (M_ss m) 20 (M_ss m 20 + 1))) (0 : Int32) (1 : Int32)) fun (o : Int32) => if M_ss (M_ss_ m (upd (M_ss m) 20 (M_ss m 20 + 1))) 20 ≤ o then R (M_ss_ m (upd (M_ss m) 20 (M_ss m 20 + 1))) else bd (f_X5_drops fu (M_ss_ m (upd (M_ss m) 20 (M_ss m 20 + 1))) (0 : Int32)) fun (o : TM) => R o) = R (M_ss_ m s2)) ∧ TR u2 s2 ∧ TI u2 ∧ S_jb u2 = nI J2 ∧ J2 ≤ 6 ∧ rmn (S_jr u2) J2 + 1 = rmn (S_jr u) J ∧ S_ac u2 = S_ac u := by
  have g0 : 0 ≤ (S_jr u 0).toInt ∧ (S_jr u 0).toInt ≤ (S_jr u 3).toInt ∧ (S_jr u 3).toInt ≤ (S_jr u 1).toInt ∧ (S_jr u 1).toInt < (S_sl u).toInt ∧ rg (S_jr u 2) (-9999) 9999 := hI.jr (j := 0) (by rw [hJ, n_ti (by omega)]; omega)
  obtain ⟨b1, b2, b3, b4, b5⟩ := g0
  obtain ⟨a1, a2⟩ := hI.sl
  obtain ⟨i, ei, ei2, -⟩ := i_of (x := S_jr u 3) (by omega)
  obtain ⟨e, ee, ee2, -⟩ := i_of (x := S_jr u 1) (by omega)
  have s20 : M_ss m 20 = nI i := (hT.jr (k := 3) (by omega) (by rw [hJ, n_ti (by omega)]; omega)).symm.trans ei
  have s18 : M_ss m 18 = nI e := (hT.jr (k := 1) (by omega) (by rw [hJ, n_ti (by omega)]; omega)).symm.trans ee
  have ejo : f_X5_jobOf fu (M_ss_ m (upd (M_ss m) 20 (nI (i + 1)))) (0 : Int32) (1 : Int32) = some (nI e) := by
    rw [show f_X5_jobOf fu (M_ss_ m (upd (M_ss m) 20 (nI (i + 1)))) (0 : Int32) (1 : Int32) = some (M_ss (M_ss_ m (upd (M_ss m) 20 (nI (i + 1)))) (17 + (4 * 0 + 1))) from e_jobO (r := 0) (c := 1) (by omega)]
    show some (upd (M_ss m) 20 (nI (i + 1)) 18) = _
    rw [pk_un (by omega), s18]
  have e20 : M_ss (M_ss_ m (upd (M_ss m) 20 (nI (i + 1)))) 20 = nI (i + 1) := (show upd (M_ss m) 20 (nI (i + 1)) 20 = nI (i + 1) from pk_us)
  rw [s20, n_p1, ejo, e20]
  by_cases c : e ≤ i
  · have egoon : f_X1_goOn fu u = some (dU u 0 J) := by
      unfold f_X1_goOn
      simp only [nm_d]
      rw [ei, ee, if_pos (n_le' (by omega) (by omega) c), show f_X1_removeJob fu u (0 : Int32) = _ from e_removeJob (j := 0) hJ hJ6 (by omega)]
      rfl
    have h16 : M_ss (M_ss_ m (upd (M_ss m) 20 (nI (i + 1)))) 16 = nI J := by
      show upd (M_ss m) 20 (nI (i + 1)) 16 = nI J
      rw [pk_un (by omega)]
      exact hT.jb.symm.trans hJ
    refine ⟨dU u 0 J, dSc (upd (M_ss m) 20 (nI (i + 1))) 0 J (4 * (J - 1 - 0)), J - 1, egoon, fun X R => ?_, TR_drop hT hJ hJ6 (by omega) (fun k hk => pk_un (by omega)), TI_drop hI hJ hJ6 (by omega), rfl, by omega, ?_, rfl⟩
    · rw [bd_s, if_neg (n_nle (by omega) (by omega) (by omega)), show f_X5_drops fu (M_ss_ m (upd (M_ss m) 20 (nI (i + 1)))) (0 : Int32) = _ from e_drops (j := 0) h16 hJ6 (by omega) hfu, bd_s]
      rfl
    · obtain ⟨J', rfl⟩ : ∃ J', J = J' + 1 := ⟨J - 1, by omega⟩
      rw [rmn_shift (f := S_jr u) (g := S_jr (dU u 0 (J' + 1))) J' (fun k hk => by rw [dU_jr (by omega), if_neg (by omega)])]
      show rmn (S_jr (dU u 0 (J' + 1))) J' + 1 = _
      omega
  · have egoon : f_X1_goOn fu u = some (S_jr_ u (upd (S_jr u) 3 (nI (i + 1)))) := by
      unfold f_X1_goOn
      simp only [nm_d]
      rw [ei, ee, if_neg (n_nle (by omega) (by omega) (by omega)), n_p1]
    refine ⟨S_jr_ u (upd (S_jr u) 3 (nI (i + 1))), upd (M_ss m) 20 (nI (i + 1)), J, egoon, fun X R => ?_, TR_jr (i := 3) hT (by omega), ?_, hJ, hJ6, ?_, rfl⟩
    · rw [bd_s, if_pos (n_le' (by omega) (by omega) (by omega))]
    · obtain ⟨h0, h1, h2, h3, h4, h5⟩ := hI
      refine ⟨h0, h1, h2, h3, h4, fun z hz => ?_⟩
      have h6 := h5 z hz
      unfold JI at h6 ⊢
      show 0 ≤ (upd (S_jr u) 3 (nI (i + 1)) (4 * z)).toInt ∧ (upd (S_jr u) 3 (nI (i + 1)) (4 * z)).toInt ≤ (upd (S_jr u) 3 (nI (i + 1)) (4 * z + 3)).toInt ∧ (upd (S_jr u) 3 (nI (i + 1)) (4 * z + 3)).toInt ≤ (upd (S_jr u) 3 (nI (i + 1)) (4 * z + 1)).toInt ∧ (upd (S_jr u) 3 (nI (i + 1)) (4 * z + 1)).toInt < (S_sl u).toInt ∧ rg (upd (S_jr u) 3 (nI (i + 1)) (4 * z + 2)) (-9999) 9999
      rw [pk_un (k := 3) (j := 4 * z) (by omega), pk_un (k := 3) (j := 4 * z + 1) (by omega), pk_un (k := 3) (j := 4 * z + 2) (by omega)]
      by_cases z0 : z = 0
      · subst z0
        rw [show 4 * 0 + 3 = 3 from rfl, pk_us, n_ti (by omega)]
        refine ⟨h6.1, ?_, ?_, h6.2.2.2⟩
        · show (S_jr u 0).toInt ≤ _
          omega
        · show _ ≤ (S_jr u 1).toInt
          omega
      · rw [pk_un (k := 3) (j := 4 * z + 3) (by omega)]
        exact h6
    · obtain ⟨J', rfl⟩ : ∃ J', J = J' + 1 := ⟨J - 1, by omega⟩
      rw [rmn_shift (f := S_jr u) (g := fun k => S_jr u (k + 4)) J' (fun k _ => rfl), rmn_shift (f := S_jr (S_jr_ u (upd (S_jr u) 3 (nI (i + 1))))) (g := fun k => S_jr u (k + 4)) J' (fun k _ => by
        show S_jr u (k + 4) = upd (S_jr u) 3 (nI (i + 1)) (k + 4)
        rw [pk_un (by omega)])]
      show ((upd (S_jr u) 3 (nI (i + 1)) 1).toInt - (upd (S_jr u) 3 (nI (i + 1)) 3).toInt + 1).toNat + _ + 1 = _
      rw [pk_un (by omega), pk_us, n_ti (by omega)]
      omega
/-- a lift -/
def raT (u : TS) (i : Nat) (l : Int32) : TS := S_fo_ (S_ac_ (S_li_ (S_lv_ u (upd (S_lv u) i (S_lv u i + l))) (upd (S_li u) i (S_li u i + l))) (upd (S_ac u) 1 (S_ac u 1 + l))) (upd (S_fo u) i (if S_fo u i + 3 < 100 then S_fo u i + 3 else 100))
def raS (u : TS) (s : Nat → Int32) (i : Nat) (l : Int32) : Nat → Int32 := upd (upd (upd (upd s (41 + i) (S_lv u i + l)) (221 + i) (S_li u i + l)) 10 (S_ac u 1 + l)) (101 + i) (if S_fo u i + 3 < 100 then S_fo u i + 3 else 100)
theorem e_raise {fu : Nat} {u : TS} {i : Nat} {l : Int32} (hi : i < 60) : f_X1_raise fu u (nI i) l = some (raT u i l) := by
  unfold f_X1_raise f_X1_foul
  simp only [nm_d]
  rw [ix_n hi (by omega), ix_n hi (by omega), ix_n hi (by omega), ix_n hi (by omega), ix_n hi (by omega), ix_n hi (by omega), n_cl (by omega)]
  rfl
theorem e_lift5 {fu : Nat} {u : TS} {m : TM} {i : Nat} {l : Int32} (hT : TR u (M_ss m)) (hi : i < 60) : f_X5_lift fu m (nI i) l = some (M_ss_ m (raS u (M_ss m) i l)) := by
  unfold f_X5_lift
  have e : (if S_fo u i + 3 ≤ 100 then S_fo u i + 3 else (100 : Int32)) = if S_fo u i + 3 < 100 then S_fo u i + 3 else 100 := by
    by_cases c : S_fo u i + 3 < 100
    · rw [if_pos c, if_pos (by rw [i_lt] at c; rw [i_le]; omega)]
    · rw [if_neg c]
      by_cases c2 : S_fo u i + 3 ≤ 100
      · rw [if_pos c2, i_eq]
        rw [i_lt] at c
        rw [i_le] at c2
        omega
      · rw [if_neg c2]
  simp only [nm_d, n_41, n_221, n_101, M_ss_ss]
  rw [ix_n (by omega) (by omega), ix_n (by omega) (by omega), ix_n (by omega) (by omega), ix_n (by omega) (by omega), ix_n (by omega) (by omega), n_cl (by omega), n_cl (by omega), n_cl (by omega)]
  rw [pk_un (k := 41 + i) (j := 221 + i) (by omega), pk_un (k := 221 + i) (j := 10) (by omega), pk_un (k := 41 + i) (j := 10) (by omega), pk_un (k := 10) (j := 101 + i) (by omega), pk_un (k := 221 + i) (j := 101 + i) (by omega), pk_un (k := 41 + i) (j := 101 + i) (by omega)]
  rw [show M_ss m 10 = S_ac u 1 from (hT.ac (k := 1) (by omega)).symm, ← hT.lv hi, ← hT.li hi, ← hT.fo hi, e_lesser, bd_s, ix_n (by omega) (by omega), e]
  rfl
theorem TR_ra {u : TS} {s : Nat → Int32} {i : Nat} {l : Int32} (h : TR u s) (hi : i < 60) : TR (raT u i l) (raS u s i l) := by
  have h1 := TR_lv (i := i) (x := S_lv u i + l) h hi
  have h2 := TR_li (i := i) (x := S_li u i + l) h1 hi
  have h3 := TR_ac (i := 1) (x := S_ac u 1 + l) h2 (by omega)
  have h4 := TR_fo (i := i) (x := if S_fo u i + 3 < 100 then S_fo u i + 3 else 100) h3 hi
  exact h4
theorem TI_ra {u : TS} {i : Nat} {l : Int32} (h : TI u) (hi : i < 60) (hl : rg (S_lv u i + l) (-9999) 9999) : TI (raT u i l) := by
  have h1 := TI_lv (i := i) h hl
  have h2 : TI (S_ac_ (S_li_ (S_lv_ u (upd (S_lv u) i (S_lv u i + l))) (upd (S_li u) i (S_li u i + l))) (upd (S_ac u) 1 (S_ac u 1 + l))) := h1
  obtain ⟨f1, f2⟩ := h.fo hi
  have e3 : (S_fo u i + 3).toInt = (S_fo u i).toInt + 3 := i_add (show -2147483648 ≤ (S_fo u i).toInt + 3 by omega) (show (S_fo u i).toInt + 3 < 2147483648 by omega)
  refine TI_fo (i := i) h2 ?_
  unfold rg
  by_cases c : S_fo u i + 3 < 100
  · rw [if_pos c]
    rw [i_lt, show (100 : Int32).toInt = 100 from rfl] at c
    omega
  · rw [if_neg c, show (100 : Int32).toInt = 100 from rfl]
    omega
def mf (x : Int32) : Int32 := 2 + (x + 49) / 50
theorem e_mf4 (fu : Nat) (x : Int32) : f_X4_minutesFor fu x = some (mf x) := rfl
theorem e_mf5 (fu : Nat) (x : Int32) : f_X5_minutesFor fu x = some (mf x) := rfl
