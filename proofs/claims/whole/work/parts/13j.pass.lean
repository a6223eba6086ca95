theorem TR_ac2 {u : TS} {s : Nat → Int32} {i : Nat} {x : Int32} (h : TR u s) (hi : i < 7) : TR (S_ac_ u (upd (S_ac u) i (S_ac u i + x))) (upd s (9 + i) (s (9 + i) + x)) := by
  rw [← h.ac hi]
  exact TR_ac h hi
theorem TR_pass {u : TS} {s : Nat → Int32} {b : Nat → Bool} {L : Nat → Int32} {p q o : Int32} {N : Nat} (h : TR u s) (hN2 : N ≤ 60) : TR (pU u b L p q o N) (pW u b L p q o (fl (pF u b) s 101 N) N) := by
  obtain ⟨h0, h1, h2, h3, h4, h5, h6, h7, h8⟩ := h
  have out : ∀ t, t ≠ 9 → ¬ (41 ≤ t ∧ t < 41 + N) → ¬ (161 ≤ t ∧ t < 161 + N) → ¬ (101 ≤ t ∧ t < 101 + N) → pW u b L p q o (fl (pF u b) s 101 N) N t = s t := fun t c1 c2 c3 c4 => by
    unfold pW
    rw [if_neg c1, if_neg c2, if_neg c3]
    exact fl_out (by omega)
  refine ⟨?_, fun k hk => ?_, fun k hk => ?_, ?_, fun k hk => ?_, fun k hk => ?_, fun k hk => ?_, fun k hk => ?_, fun k hk hj => ?_⟩
  · exact h0.trans (out _ (by omega) (by omega) (by omega) (by omega)).symm
  · exact (h1 k hk).trans (out _ (by omega) (by omega) (by omega) (by omega)).symm
  · show upd (S_ac u) 0 (pA u b L p q o N) k = _
    by_cases c : k = 0
    · subst c
      rw [pk_us]
      exact (if_pos rfl).symm
    · rw [pk_un c, out _ (by omega) (by omega) (by omega) (by omega)]
      exact h2 k hk
  · exact h3.trans (out _ (by omega) (by omega) (by omega) (by omega)).symm
  · show fl (pL u b L p q o) (S_lv u) 0 N k = _
    by_cases c : k < N
    · rw [fl_in0 c]
      unfold pW
      rw [if_neg (by omega), if_pos (by omega), Nat.add_sub_cancel_left]
    · rw [fl_out (by omega), out _ (by omega) (by omega) (by omega) (by omega)]
      exact h4 k hk
  · show fl (pF u b) (S_fo u) 0 N k = _
    by_cases c : k < N
    · rw [fl_in0 c]
      unfold pW
      rw [if_neg (by omega), if_neg (by omega), if_neg (by omega), fl_in c]
    · rw [fl_out (by omega), out _ (by omega) (by omega) (by omega) (by omega)]
      exact h5 k hk
  · show fl (pE u b L p q o) (S_se u) 0 N k = _
    by_cases c : k < N
    · rw [fl_in0 c]
      unfold pW
      rw [if_neg (by omega), if_neg (by omega), if_pos (by omega), Nat.add_sub_cancel_left]
    · rw [fl_out (by omega), out _ (by omega) (by omega) (by omega) (by omega)]
      exact h6 k hk
  · exact (h7 k hk).trans (out _ (by omega) (by omega) (by omega) (by omega)).symm
  · exact (h8 k hk hj).trans (out _ (by omega) (by omega) (by omega) (by omega)).symm
theorem TI_pass {u : TS} {b : Nat → Bool} {L : Nat → Int32} {p q o : Int32} {N : Nat} (h : TI u) (hN2 : N ≤ 60) (hL : ∀ k, k < N → rg (L k) 0 1000) (hp : rg p 1 200) (hq : rg q 1 30) : TI (pU u b L p q o N) := by
  obtain ⟨h0, h1, h2, h3, h4, h5⟩ := id h
  refine ⟨h0, h1, fun k hk => ?_, fun k hk => ?_, h4, h5⟩
  · show rg (fl (pL u b L p q o) (S_lv u) 0 N k) (-9999) 9999
    by_cases c : k < N
    · rw [fl_in0 c]
      unfold pL
      by_cases e : b k = false
      · rw [if_pos e]
        obtain ⟨y1, y2, y3⟩ := stY_rg (o := o) hp hq (hL k c) (h3 k hk)
        obtain ⟨-, z1, z2⟩ := stl_eq y1 y2 (h2 k hk)
        have z1 : 0 ≤ (pS u L p q o k).toInt := z1
        have z2 : (pS u L p q o k).toInt ≤ (S_lv u k).toInt + 9999 := z2
        obtain ⟨l1, l2⟩ := h2 k hk
        unfold rg
        rw [i_sub (by omega) (by omega)]
        omega
      · rw [if_neg e]
        exact h2 k hk
    · rw [fl_out (by omega)]
      exact h2 k hk
  · show rg (fl (pF u b) (S_fo u) 0 N k) 0 100
    by_cases c : k < N
    · rw [fl_in0 c]
      unfold pF
      by_cases e : b k = false
      · rw [if_pos e]
        exact h3 k hk
      · rw [if_neg e]
        obtain ⟨f1, f2⟩ := h3 k hk
        have e1 : (S_fo u k + 1).toInt = (S_fo u k).toInt + 1 := i_add (show -2147483648 ≤ (S_fo u k).toInt + 1 by omega) (show (S_fo u k).toInt + 1 < 2147483648 by omega)
        unfold rg
        by_cases c2 : S_fo u k + 1 < 100
        · rw [if_pos c2]
          rw [i_lt, show (100 : Int32).toInt = 100 from rfl] at c2
          omega
        · rw [if_neg c2, show (100 : Int32).toInt = 100 from rfl]
          omega
    · rw [fl_out (by omega)]
      exact h3 k hk
def ac3 (z : TS) (a w : Int32) : TS := S_ac_ z (upd (upd (upd (S_ac z) 2 (S_ac z 2 + a)) 4 (upd (S_ac z) 2 (S_ac z 2 + a) 4 + 1)) 5 (upd (upd (S_ac z) 2 (S_ac z 2 + a)) 4 (upd (S_ac z) 2 (S_ac z 2 + a) 4 + 1) 5 + w))
def as3 (s : Nat → Int32) (a w : Int32) : Nat → Int32 := upd (upd (upd s 11 (s 11 + a)) 13 (upd s 11 (s 11 + a) 13 + 1)) 14 (upd (upd s 11 (s 11 + a)) 13 (upd s 11 (s 11 + a) 13 + 1) 14 + w)
theorem TR_ac3 {z : TS} {s : Nat → Int32} {a w : Int32} (h : TR z s) : TR (ac3 z a w) (as3 s a w) := by
  have t2 := TR_ac2 (i := 2) (x := a) h (by omega)
  have t3 := TR_ac2 (i := 4) (x := 1) t2 (by omega)
  have t4 := TR_ac2 (i := 5) (x := w) t3 (by omega)
  exact t4
theorem jn_shr {X : Type} (K : Int32 → X) (o : Int32) : jn K (fun (K2 : Int32 → X) => if ¬ o = 0 then (if ¬ o = (1 : Int32) then K2 ((40 : Int32)) else K2 ((70 : Int32))) else K2 ((100 : Int32))) = K (shr o) := by
  rw [jn_e]
  unfold shr
  by_cases c : o = 0
  · rw [if_neg (fun e => e c), if_pos c]
  · rw [if_pos c, if_neg c]
    by_cases c2 : o = 1
    · rw [if_neg (fun e => e c2), if_pos c2]
    · rw [if_pos c2, if_neg c2]
theorem jn_lst {X : Type} (K : Int32 → X) (o : Int32) : jn K (fun (K2 : Int32 → X) => if ¬ o = 0 then (if ¬ o = (1 : Int32) then K2 ((6 : Int32)) else K2 ((2 : Int32))) else K2 ((0 : Int32))) = K (lst o) := by
  rw [jn_e]
  unfold lst
  by_cases c : o = 0
  · rw [if_neg (fun e => e c), if_pos c]
  · rw [if_pos c, if_neg c]
    by_cases c2 : o = 1
    · rw [if_neg (fun e => e c2), if_pos c2]
    · rw [if_pos c2, if_neg c2]
theorem r_pass {fu : Nat} {u : TS} {m : TM} {v : TV} {N K A : Nat} {p q : Int32} (hT : TR u (M_ss m)) (hI : TI u) (hN : S_sl u = nI N) (hN1 : 10 ≤ N) (hN2 : N ≤ 60) (hK : S_nu u 0 = nI K) (hK1 : 1 ≤ K) (hK2 : K ≤ 20) (hA : S_nu u 2 = nI A) (hA1 : 1 ≤ A) (hA2 : A ≤ 5) (hp : rg p 1 200) (hq : rg q 1 30) (hv : LK v u N K A (M_ra m)) (hfu : 2000 ≤ fu) :
    ∃ u' v' s' l' g', f_X4_passTrain fu v u p q = some (v', u') ∧ f_X5_passes fu m p q (V_od v) = some (M_ra_ (M_lo_ (M_ss_ m s') l') g') ∧ TR u' s' ∧ TI u' ∧ S_sl u' = S_sl u ∧ S_nu u' = S_nu u ∧ LK v' u' N K A g' := by
  obtain ⟨v1, v2, v3, v4⟩ := hv
  have hcar := one_car hI hN1 hN2 v4
  obtain ⟨F, lo1, hF⟩ := r_findLoads (fu := fu) (v := v) (u := u) (b := hgB u (M_ra m)) (f0 := fl (l0 (hgB u (M_ra m))) (M_lo m) 0 N) hN hN1 hN2 (fun t ht => fl_in0 ht) v2 hcar hfu
  have lo2 := e_laysLoads (fu := fu) hT hN hN1 hN2 hcar hfu
  have hLr : ∀ k, k < N → rg (gl (hgB u (M_ra m)) N (fl (l0 (hgB u (M_ra m))) (M_lo m) 0 N) N k) 0 1000 := fun k hk => by
    obtain ⟨x1, x2⟩ := gl_rg (b := hgB u (M_ra m)) (N := N) (f0 := fl (l0 (hgB u (M_ra m))) (M_lo m) 0 N) (by omega) (fun t ht => fl_in0 ht) N (Nat.le_refl N) k hk
    unfold rg
    omega
  generalize gl (hgB u (M_ra m)) N (fl (l0 (hgB u (M_ra m))) (M_lo m) 0 N) N = L at hF lo2 hLr
  have c1 := c_pass (fu := fu) (u := u) (v := V_lo_ v F) (N := N) (b := hgB u (M_ra m)) (L := L) (p := p) (q := q) hN hN2 hF v2 hfu
  have m1 := m_pass1 (fu := fu) (L := L) hT hN hN2 hfu
  have m2 := m_pass2 (fu := fu) (u := u) (m := M_lo_ (M_ss_ m (fl (pF u (hgB u (M_ra m))) (M_ss m) 101 N)) (fl (fun t => if hgB u (M_ra m) t = false then L t else -1) L 0 N)) (N := N) (b := hgB u (M_ra m)) (L := L) (p := p) (q := q) (o := V_od v) hN2
    ((ss_out (by omega)).trans (hT.sl.symm.trans hN)) ((ss_out (by omega)).trans (hT.ac (k := 0) (by omega)).symm) (fun k hk => (ss_out (by omega)).trans (hT.lv (by omega)).symm) (fun k hk => (ss_out (by omega)).trans (hT.se (by omega)).symm) (fun k hk e => (ss_in hk).trans (if_pos e)) (fun k hk => lo_in0 hk) hLr hp hq (fun k hk => hI.fo (by omega)) (fun k hk => hI.lv (by omega)) hfu
  have t1 : TR (pU u (hgB u (M_ra m)) L p q (V_od v) N) (pW u (hgB u (M_ra m)) L p q (V_od v) (fl (pF u (hgB u (M_ra m))) (M_ss m) 101 N) N) := TR_pass hT hN2
  have i1 : TI (pU u (hgB u (M_ra m)) L p q (V_od v) N) := TI_pass hI hN2 hLr hp hq
  have hPT : f_X4_passTrain fu v u p q = bd (f_X2_look fu (V_lo_ v F) (ac3 (pU u (hgB u (M_ra m)) L p q (V_od v) N) (lst (V_od v)) (p * q))) fun (o : TV) => some (o, ac3 (pU u (hgB u (M_ra m)) L p q (V_od v) N) (lst (V_od v)) (p * q)) := by
    unfold f_X4_passTrain
    rw [lo1, bd_s, c1, bd_s]
    simp only [nm_d]
    rw [e_lost, bd_s]
    rfl
  have hPM : f_X5_passes fu m p q (V_od v) = bd (f_X5_laysRail fu (M_lo_ (M_ss_ m (as3 (pW u (hgB u (M_ra m)) L p q (V_od v) (fl (pF u (hgB u (M_ra m))) (M_ss m) 101 N) N) (lst (V_od v)) (p * q))) (fl (fun t => if hgB u (M_ra m) t = false then L t else -1) L 0 N))) fun (o : TM) => some o := by
    unfold f_X5_passes
    rw [lo2, bd_s, jn_shr, m1, bd_s, m2, bd_s, nm_d, jn_lst]
    simp only [nm_d]
    rfl
  have t5 : TR (ac3 (pU u (hgB u (M_ra m)) L p q (V_od v) N) (lst (V_od v)) (p * q)) (as3 (pW u (hgB u (M_ra m)) L p q (V_od v) (fl (pF u (hgB u (M_ra m))) (M_ss m) 101 N) N) (lst (V_od v)) (p * q)) := TR_ac3 t1
  have i5 : TI (ac3 (pU u (hgB u (M_ra m)) L p q (V_od v) N) (lst (V_od v)) (p * q)) := TI_ac i1
  obtain ⟨f', e1, hf⟩ := r_look (fu := fu) (v := V_lo_ v F) i5 hN hN1 hN2 hK hK1 hK2 hA hA1 hA2 hfu
  obtain ⟨g', e2, hg1⟩ := r_rail (fu := fu) (m := M_lo_ (M_ss_ m (as3 (pW u (hgB u (M_ra m)) L p q (V_od v) (fl (pF u (hgB u (M_ra m))) (M_ss m) 101 N) N) (lst (V_od v)) (p * q))) (fl (fun t => if hgB u (M_ra m) t = false then L t else -1) L 0 N)) t5 i5 hN hN1 hN2 hK hK1 hK2 hfu
  rw [hPT, e1, bd_s, hPM, e2, bd_s]
  exact ⟨_, _, _, _, g', rfl, rfl, t5, i5, rfl, rfl, LK_of hf hg1⟩
