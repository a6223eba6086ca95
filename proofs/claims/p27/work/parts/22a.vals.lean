/-! what the looking calls answer -/
theorem isR_eq {u v : TS} {N K i : Nat} {r : Int} (h : ∀ k, k < N → S_lv u k = S_lv v k) (hr : isR v N K i r) : isR u N K i r := by
  have e : ∀ k, k < N → lvI u k = lvI v k := fun k hk => by
    unfold lvI
    rw [h k hk]
  obtain ⟨h1, j, hj, h2⟩ := hr
  exact ⟨fun k hk => by rw [e k hk]; exact h1 k hk, j, hj, by rw [e j hj]; exact h2⟩
def GV (u : TS) (N K A : Nat) (g : Nat → Int32) : Prop := S_sl u = nI N ∧ 10 ≤ N ∧ N ≤ 60 ∧ S_nu u 0 = nI K ∧ 1 ≤ K ∧ K ≤ 20 ∧ S_nu u 2 = nI A ∧ 1 ≤ A ∧ A ≤ 5 ∧ ∀ t, t < N → isR u N K t (g t).toInt
theorem GV_ex {u : TS} (hI : TI u) : ∃ N K A g, GV u N K A g := by
  obtain ⟨N, K, Hh, A, eN, hN1, hN2, eK, hK1, hK2, eH, hH1, eA, hA1, hA2⟩ := hI.nat
  obtain ⟨f, e1, hf⟩ := r_look (fu := 2000) (v := (S_lv u, S_lv u, S_lv u, 0, 0, 0, 0)) hI eN hN1 hN2 eK hK1 hK2 eA hA1 hA2 (Nat.le_refl 2000)
  exact ⟨N, K, A, f, eN, hN1, hN2, eK, hK1, hK2, eA, hA1, hA2, hf⟩
theorem GV_eq {u v : TS} {N K A : Nat} {g : Nat → Int32} (h : EQ u v) (hv : GV v N K A g) : GV u N K A g := by
  obtain ⟨eN, hN1, hN2, eK, hK1, hK2, eA, hA1, hA2, hg⟩ := hv
  exact ⟨h.1.trans eN, hN1, hN2, (h.2.2.1 0 (by omega)).trans eK, hK1, hK2, (h.2.2.1 2 (by omega)).trans eA, hA1, hA2, fun t ht => isR_eq (fun k hk => h.2.2.2.1 k (by omega)) (hg t ht)⟩
theorem v_look {fu : Nat} {u : TS} {v : TV} {N K A : Nat} {g : Nat → Int32} (hI : TI u) (hv : GV u N K A g) (hfu : 2000 ≤ fu) :
    ∃ f, f_X2_look fu v u = some (lk v u N A f) ∧ (∀ t, t < N → f t = g t) ∧ ∀ t, t < N → isR u N K t (f t).toInt := by
  obtain ⟨eN, hN1, hN2, eK, hK1, hK2, eA, hA1, hA2, hg⟩ := hv
  obtain ⟨f, e1, hf⟩ := r_look (fu := fu) (v := v) hI eN hN1 hN2 eK hK1 hK2 eA hA1 hA2 hfu
  exact ⟨f, e1, ra_eq hf hg, hf⟩
def cv (u : TS) (N A : Nat) (g : Nat → Int32) (hi : TH) (tx : TX) (mk : Int32) (k : Nat) : Int32 := if k = 0 then S_sl u else if k < 9 then S_nu u (k - 1) else if k = 9 then S_jb u else if k = 10 then hc u g N else if k = 11 then od u (wf g N A N).2 else if k = 12 then X_ln tx else if k = 13 then H_sz hi else mk
def kmask (kp : Nat → Int32) : Int32 := kp 0 + kp 1 + kp 1
theorem KI.mask {T fu : Nat} {kp : Nat → Int32} {i0 i1 : TS} (h : KI T kp i0 i1) (hfu : 2000 ≤ fu) : ∃ k0 k1 : Nat, k0 ≤ 1 ∧ k1 ≤ 1 ∧ kp 0 = nI k0 ∧ kp 1 = nI k1 ∧ f_X4_keptMask fu kp = some (nI (k0 + 2 * k1)) := by
  obtain ⟨k0, k1, h1, h2, h3, h4, -⟩ := h
  exact ⟨k0, k1, h1, h2, h3, h4, e_keptMask h1 h2 h3 h4 hfu⟩
theorem v_count {fu : Nat} {u : TS} {v : TV} {hi : TH} {tx : TX} {kp : Nat → Int32} {N K A : Nat} {g : Nat → Int32} {mk : Int32} {k : Nat} (hI : TI u) (hv : GV u N K A g) (hm : f_X4_keptMask fu kp = some mk) (hk : k < 15) (hfu : 2000 ≤ fu) :
    ∃ w, f_X4_count fu u v hi tx kp (nI k) = some (cv u N A g hi tx mk k, w) := by
  obtain ⟨f, e1, efg, hf⟩ := v_look (fu := fu) (v := v) hI hv hfu
  unfold f_X4_count
  rw [e1, hm]
  simp only [e_within, bd_s, bf, Bool.not_eq_false, nm_d, jn_e]
  rw [decide_eq_true (show (0 : Int32).toInt ≤ (nI k).toInt ∧ (nI k).toInt ≤ (14 : Int32).toInt by rw [n_ti (by omega), z_0, show (14 : Int32).toInt = 14 from rfl]; omega), if_pos rfl]
  rcases (show k = 0 ∨ k = 1 ∨ k = 2 ∨ k = 3 ∨ k = 4 ∨ k = 5 ∨ k = 6 ∨ k = 7 ∨ k = 8 ∨ k = 9 ∨ k = 10 ∨ k = 11 ∨ k = 12 ∨ k = 13 ∨ k = 14 by omega) with rfl | rfl | rfl | rfl | rfl | rfl | rfl | rfl | rfl | rfl | rfl | rfl | rfl | rfl | rfl
  · (repeat (first | rw [if_pos (by decide)] | rw [if_neg (by decide)]))
    exact ⟨_, rfl⟩
  · (repeat (first | rw [if_pos (by decide)] | rw [if_neg (by decide)]))
    rw [n_m1 (by omega), ix_n (by omega) (by omega), n_cl (by omega)]
    exact ⟨_, rfl⟩
  · (repeat (first | rw [if_pos (by decide)] | rw [if_neg (by decide)]))
    rw [n_m1 (by omega), ix_n (by omega) (by omega), n_cl (by omega)]
    exact ⟨_, rfl⟩
  · (repeat (first | rw [if_pos (by decide)] | rw [if_neg (by decide)]))
    rw [n_m1 (by omega), ix_n (by omega) (by omega), n_cl (by omega)]
    exact ⟨_, rfl⟩
  · (repeat (first | rw [if_pos (by decide)] | rw [if_neg (by decide)]))
    rw [n_m1 (by omega), ix_n (by omega) (by omega), n_cl (by omega)]
    exact ⟨_, rfl⟩
  · (repeat (first | rw [if_pos (by decide)] | rw [if_neg (by decide)]))
    rw [n_m1 (by omega), ix_n (by omega) (by omega), n_cl (by omega)]
    exact ⟨_, rfl⟩
  · (repeat (first | rw [if_pos (by decide)] | rw [if_neg (by decide)]))
    rw [n_m1 (by omega), ix_n (by omega) (by omega), n_cl (by omega)]
    exact ⟨_, rfl⟩
  · (repeat (first | rw [if_pos (by decide)] | rw [if_neg (by decide)]))
    rw [n_m1 (by omega), ix_n (by omega) (by omega), n_cl (by omega)]
    exact ⟨_, rfl⟩
  · (repeat (first | rw [if_pos (by decide)] | rw [if_neg (by decide)]))
    rw [n_m1 (by omega), ix_n (by omega) (by omega), n_cl (by omega)]
    exact ⟨_, rfl⟩
  · (repeat (first | rw [if_pos (by decide)] | rw [if_neg (by decide)]))
    exact ⟨_, rfl⟩
  · (repeat (first | rw [if_pos (by decide)] | rw [if_neg (by decide)]))
    refine ⟨lk v u N A f, ?_⟩
    show some (hc u f N, lk v u N A f) = some (hc u g N, lk v u N A f)
    rw [hc_c efg N (Nat.le_refl N)]
  · (repeat (first | rw [if_pos (by decide)] | rw [if_neg (by decide)]))
    refine ⟨lk v u N A f, ?_⟩
    show some (od u (wf f N A N).2, lk v u N A f) = some (od u (wf g N A N).2, lk v u N A f)
    rw [wf_c efg N (Nat.le_refl N)]
  · (repeat (first | rw [if_pos (by decide)] | rw [if_neg (by decide)]))
    exact ⟨_, rfl⟩
  · (repeat (first | rw [if_pos (by decide)] | rw [if_neg (by decide)]))
    exact ⟨_, rfl⟩
  · (repeat (first | rw [if_pos (by decide)] | rw [if_neg (by decide)]))
    exact ⟨_, rfl⟩
def sv (u : TS) (N A : Nat) (g : Nat → Int32) (i k : Nat) : Int32 := if k = 0 then S_lv u i else if k = 1 then S_fo u i else if k = 3 then g i - S_lv u i else if k = 4 then bI (hgB u g i) else if k = 5 then gl (hgB u g) N (l0 (hgB u g)) N i else if k = 7 then od u (sz (df g N A i)) else if k = 8 then S_se u i else S_li u i
theorem v_sleeper {fu : Nat} {u : TS} {v : TV} {N K A : Nat} {g : Nat → Int32} {i k : Nat} (hI : TI u) (hv : GV u N K A g) (hi : i < N) (hk : k = 0 ∨ k = 1 ∨ k = 3 ∨ k = 4 ∨ k = 5 ∨ k = 7 ∨ k = 8 ∨ k = 9) (hfu : 2000 ≤ fu) :
    ∃ w, f_X4_sleeper fu u v (nI i) (nI k) = some (sv u N A g i k, w) := by
  obtain ⟨f, e1, efg, hf⟩ := v_look (fu := fu) (v := v) hI hv hfu
  obtain ⟨eN, hN1, hN2, eK, hK1, hK2, eA, hA1, hA2, hgg⟩ := id hv
  have hcar := one_car hI hN1 hN2 hgg
  have ha : ∀ t, t < N → V_ha (lk v u N A f) t = bI (hgB u g t) := fun t ht => by
    show fl (hg u f) (V_ha v) 0 N t = _
    rw [fl_in0 ht, hg_bI, hgB_c (efg t ht)]
  obtain ⟨F, lo1, hF⟩ := r_findLoads (fu := fu) (v := lk v u N A f) (u := u) (b := hgB u g) (f0 := l0 (hgB u g)) eN hN1 hN2 (fun t ht => rfl) ha hcar hfu
  unfold f_X4_sleeper f_X4_surveyed
  rw [e1]
  simp only [e_has, e_within, bd_s, bf, Bool.not_eq_false, nm_d]
  rw [eN, hs_lt hi (by omega), if_neg (show ¬ true = false by decide), decide_eq_true (show (0 : Int32).toInt ≤ (nI k).toInt ∧ (nI k).toInt ≤ (9 : Int32).toInt by rw [n_ti (by omega), z_0, show (9 : Int32).toInt = 9 from rfl]; omega), if_pos (show true = true from rfl)]
  rcases hk with rfl | rfl | rfl | rfl | rfl | rfl | rfl | rfl
  · (repeat (first | rw [if_pos (by decide)] | rw [if_neg (by decide)]))
    rw [ix_n (by omega) (by omega), n_cl (by omega)]
    exact ⟨_, rfl⟩
  · (repeat (first | rw [if_pos (by decide)] | rw [if_neg (by decide)]))
    rw [ix_n (by omega) (by omega), n_cl (by omega)]
    exact ⟨_, rfl⟩
  · (repeat (first | rw [if_pos (by decide)] | rw [if_neg (by decide)]))
    rw [e_voidAt (v := lk v u N A f) (by omega)]
    refine ⟨lk v u N A f, ?_⟩
    show some (f i - S_lv u i, lk v u N A f) = some (g i - S_lv u i, lk v u N A f)
    rw [efg i hi]
  · (repeat (first | rw [if_pos (by decide)] | rw [if_neg (by decide)]))
    rw [ix_n (by omega) (by omega), n_cl (by omega), ha i hi]
    refine ⟨lk v u N A f, ?_⟩
    show _ = some (bI (hgB u g i), lk v u N A f)
    cases hgB u g i with
    | false => rw [if_pos (by decide)]; rfl
    | true => rw [if_neg (by decide)]; rfl
  · (repeat (first | rw [if_pos (by decide)] | rw [if_neg (by decide)]))
    rw [lo1]
    simp only [bd_s]
    rw [ix_n (by omega) (by omega), n_cl (by omega)]
    refine ⟨V_lo_ (lk v u N A f) F, ?_⟩
    show some (F i, V_lo_ (lk v u N A f) F) = some (gl (hgB u g) N (l0 (hgB u g)) N i, V_lo_ (lk v u N A f) F)
    rw [hF i hi]
  · (repeat (first | rw [if_pos (by decide)] | rw [if_neg (by decide)]))
    rw [e_defectAt (v := lk v u N A f) eN hN1 hN2 eA hA1 hA2 hi]
    simp only [bd_s, nm_d, e_orderOf]
    refine ⟨lk v u N A f, ?_⟩
    show some (od u (sz (df f N A i)), lk v u N A f) = some (od u (sz (df g N A i)), lk v u N A f)
    rw [df_c efg hi]
  · (repeat (first | rw [if_pos (by decide)] | rw [if_neg (by decide)]))
    rw [ix_n (by omega) (by omega), n_cl (by omega)]
    exact ⟨_, rfl⟩
  · (repeat (first | rw [if_pos (by decide)] | rw [if_neg (by decide)]))
    rw [ix_n (by omega) (by omega), n_cl (by omega)]
    exact ⟨_, rfl⟩
def jv (u : TS) (r c : Nat) : Int32 := if nI r < S_jb u then S_jr u (4 * r + c) else -100009
theorem v_job {fu : Nat} {u : TS} {r c : Nat} (hr : r < 6) (hc : c < 4) : f_X4_job fu u (nI r) (nI c) = some (jv u r c) := by
  unfold f_X4_job jv
  simp only [e_within, bd_s, bf, Bool.not_eq_false, nm_d]
  rw [if_neg (n_nneg r (by omega)), decide_eq_true (show (0 : Int32).toInt ≤ (nI c).toInt ∧ (nI c).toInt ≤ (3 : Int32).toInt by rw [n_ti (by omega), z_0, show (3 : Int32).toInt = 3 from rfl]; omega), if_pos rfl, e_jobV (by omega)]
  simp only [bd_s]
  by_cases h : nI r < S_jb u
  · rw [if_pos h, if_pos h]
  · rw [if_neg h, if_neg h]
theorem v_account {fu : Nat} {u : TS} {k : Nat} (hk : k < 7) : f_X4_account fu u (nI k) = some (S_ac u k) := by
  unfold f_X4_account
  simp only [e_within, bd_s, bf, Bool.not_eq_false, nm_d]
  rw [decide_eq_true (show (0 : Int32).toInt ≤ (nI k).toInt ∧ (nI k).toInt ≤ (6 : Int32).toInt by rw [n_ti (by omega), z_0, show (6 : Int32).toInt = 6 from rfl]; omega), if_pos rfl, ix_n (by omega) (by omega), n_cl (by omega)]
theorem v_rail {fu : Nat} {u : TS} {v : TV} {N K A : Nat} {g : Nat → Int32} {i w : Nat} (hI : TI u) (hv : GV u N K A g) (hi : i < N) (hw : w < 2) (hfu : 2000 ≤ fu) :
    ∃ v', f_X4_rail fu u v (nI i) (nI w) = some (g i, v') := by
  obtain ⟨f, e1, efg, hf⟩ := v_look (fu := fu) (v := v) hI hv hfu
  obtain ⟨eN, hN1, hN2, eK, hK1, hK2, eA, hA1, hA2, hg⟩ := id hv
  unfold f_X4_rail
  simp only [e_has, e_within, bd_s, bf, Bool.not_eq_false, nm_d]
  rw [eN, hs_lt hi (by omega), if_neg (show ¬ true = false by decide), decide_eq_true (show (0 : Int32).toInt ≤ (nI w).toInt ∧ (nI w).toInt ≤ (1 : Int32).toInt by rw [n_ti (by omega), z_0, z_1]; omega), if_pos (show true = true from rfl)]
  rcases (show w = 0 ∨ w = 1 by omega) with rfl | rfl
  · rw [if_pos (show ¬ nI 0 = (1 : Int32) by decide), e1, bd_s, ix_n (by omega) (by omega), n_cl (by omega)]
    refine ⟨lk v u N A f, ?_⟩
    show some (f i, lk v u N A f) = some (g i, lk v u N A f)
    rw [efg i hi]
  · rw [if_neg (show ¬ ¬ nI 1 = (1 : Int32) by decide)]
    obtain ⟨r, e2, hr⟩ := r_great (fu := fu) (v := v) hI eN hN1 hN2 eK hK1 hK2 hi hfu
    rw [e2, bd_s]
    have e : r = g i := by
      rw [i_eq]
      exact isR_uniq hr (hg i hi)
    rw [e]
    exact ⟨v, rfl⟩
theorem v_why {fu : Nat} {u : TS} {v : TV} {N K A : Nat} {g : Nat → Int32} {w : Nat} (hI : TI u) (hv : GV u N K A g) (hw : w < 2) (hfu : 2000 ≤ fu) :
    ∃ v', f_X4_why fu u v (nI w) = some (if od u (wf g N A N).2 = 0 then (-100009 : Int32) else if w = 0 then (wf g N A N).1 else (wf g N A N).2, v') := by
  obtain ⟨f, e1, efg, hf⟩ := v_look (fu := fu) (v := v) hI hv hfu
  unfold f_X4_why
  simp only [e_within, bd_s, bf, Bool.not_eq_false, nm_d]
  rw [decide_eq_true (show (0 : Int32).toInt ≤ (nI w).toInt ∧ (nI w).toInt ≤ (1 : Int32).toInt by rw [n_ti (by omega), z_0, z_1]; omega), if_pos (show true = true from rfl), e1, bd_s]
  rw [show V_od (lk v u N A f) = od u (wf f N A N).2 from rfl, show V_ws (lk v u N A f) = (wf f N A N).2 from rfl, show V_wo (lk v u N A f) = (wf f N A N).1 from rfl, wf_c efg N (Nat.le_refl N)]
  refine ⟨lk v u N A f, ?_⟩
  by_cases z : od u (wf g N A N).2 = 0
  · rw [if_neg (show ¬ ¬ od u (wf g N A N).2 = 0 from fun e => e z), if_pos z]
  · rw [if_pos z, if_neg z]
    rcases (show w = 0 ∨ w = 1 by omega) with rfl | rfl
    · rw [if_neg (show ¬ ¬ nI 0 = 0 by decide), if_pos rfl]
    · rw [if_pos (show ¬ nI 1 = 0 by decide), if_neg (by decide)]
theorem k_until {fu : Nat} {N K A : Nat} {p q c : Int32} (hN1 : 10 ≤ N) (hN2 : N ≤ 60) (hK1 : 1 ≤ K) (hK2 : K ≤ 20) (hA1 : 1 ≤ A) (hA2 : A ≤ 5) (hp : rg p 1 200) (hq : rg q 1 30) (hfu : 2000 ≤ fu) : ∀ (n k : Nat) (u : TS) (v : TV) (g : Nat → Int32), k ≤ 200 → 200 - k < n → TI u → SI u → S_sl u = nI N → S_nu u 0 = nI K → S_nu u 2 = nI A → LK v u N K A g →
    ∃ (k' : Nat) (u' : TS) (v' : TV), lq_3 (lb_X4_trainsUntil_41 fu p q c) n (nI k) u v = some (nI k', u', v') ∧ k' ≤ 200 ∧ (k < 200 → c ≤ V_od v → k' = k ∧ v' = v) := by
  intro n
  induction n with
  | zero => intro k u v g h1 h2; omega
  | succ n ih =>
    intro k u v g hk hn hI hSI hN hK hA hv
    show ∃ (k' : Nat) (u' : TS) (v' : TV), lb_X4_trainsUntil_41 fu p q c (lq_3 (lb_X4_trainsUntil_41 fu p q c) n) (nI k) u v = some (nI k', u', v') ∧ k' ≤ 200 ∧ (k < 200 → c ≤ V_od v → k' = k ∧ v' = v)
    generalize lq_3 (lb_X4_trainsUntil_41 fu p q c) n = rc1 at ih ⊢
    unfold lb_X4_trainsUntil_41
    simp only [nm_d]
    by_cases c1 : (200 : Int32) ≤ nI k
    · rw [if_pos c1]
      exact ⟨k, u, v, rfl, hk, fun _ _ => ⟨rfl, rfl⟩⟩
    · rw [if_neg c1]
      rw [i_le, n_ti (by omega), show (200 : Int32).toInt = 200 from rfl] at c1
      by_cases c2 : c ≤ V_od v
      · rw [if_pos c2]
        exact ⟨k, u, v, rfl, hk, fun _ _ => ⟨rfl, rfl⟩⟩
      · rw [if_neg c2]
        obtain ⟨u1, v1, g1, e1, i1, j1, eN, eK, e4, h1⟩ := k_pass (fu := fu) hI hSI hN hN1 hN2 hK hK1 hK2 hA hA1 hA2 hp hq hv hfu
        rw [e1, bd_s, n_p1]
        obtain ⟨k', u', v', k1, k2, -⟩ := ih (k + 1) u1 v1 g1 (by omega) (by omega) i1 j1 (eN.trans hN) (by rw [eK]; exact hK) (by rw [eK]; exact hA) h1
        exact ⟨k', u', v', k1, k2, fun _ e => absurd e c2⟩
theorem od_eq {u v : TS} {x : Int32} (h : ∀ k, k < 8 → S_nu u k = S_nu v k) : od u x = od v x := by
  unfold od
  rw [h 3 (by omega), h 4 (by omega), h 5 (by omega)]
theorem od_1 {u : TS} {x : Int32} (h : ¬ od u x = 0) : (1 : Int32) ≤ od u x := by
  unfold od at h ⊢
  by_cases h1 : S_nu u 3 < x
  · rw [if_pos h1] at h ⊢
    by_cases h2 : S_nu u 4 < x
    · rw [if_pos h2]
      by_cases h3 : S_nu u 5 < x
      · rw [if_pos h3]
        decide
      · rw [if_neg h3]
        decide
    · rw [if_neg h2]
      decide
  · rw [if_neg h1] at h
    exact absurd rfl h
theorem v_until {fu : Nat} {u tr : TS} {ts : TV} {N K A : Nat} {g : Nat → Int32} (hI : TI u) (hSI : SI u) (hv : GV u N K A g) (hfu : 2000 ≤ fu) :
    ∃ r tr' ts', f_X4_trainsUntil fu u tr ts (40 : Int32) (20 : Int32) (1 : Int32) = some (r, tr', ts') ∧ r ≤ (200 : Int32) ∧ (¬ od u (wf g N A N).2 = 0 → r = 0) := by
  have tI : TI (cpT tr u) := TI_cp hI
  have tS : SI (cpT tr u) := (EQ_cp tr u).si hI hSI
  have tV : GV (cpT tr u) N K A g := GV_eq (EQ_cp tr u) hv
  obtain ⟨f, e1, efg, hf⟩ := v_look (fu := fu) (v := ts) tI tV hfu
  obtain ⟨eN, hN1, hN2, eK, hK1, hK2, eA, hA1, hA2, hg⟩ := id tV
  have hL : LK (lk ts (cpT tr u) N A f) (cpT tr u) N K A f := LK_of hf hf
  obtain ⟨k', u', v', k1, k2, k3⟩ := k_until (fu := fu) (N := N) (K := K) (A := A) (p := 40) (q := 20) (c := 1) hN1 hN2 hK1 hK2 hA1 hA2 (by unfold rg; decide) (by unfold rg; decide) hfu fu 0 (cpT tr u) (lk ts (cpT tr u) N A f) f (by omega) (by omega) tI tS eN eK eA hL
  have eo : V_od (lk ts (cpT tr u) N A f) = od u (wf g N A N).2 := by
    show od (cpT tr u) (wf f N A N).2 = _
    rw [wf_c efg N (Nat.le_refl N), od_eq (EQ_cp tr u).2.2.1]
  unfold f_X4_trainsUntil
  rw [e_isTrain]
  simp only [e_within, bd_s, bf, Bool.not_eq_false, nm_d]
  rw [if_neg (by decide), if_pos (by decide), e_copyFrom, bd_s, e1, bd_s, show lf_X4_trainsUntil_41 fu (40 : Int32) (20 : Int32) (1 : Int32) fu (0 : Int32) (cpT tr u) (lk ts (cpT tr u) N A f) = _ from k1, bd_s]
  by_cases z : od u (wf g N A N).2 = 0
  · by_cases c4 : V_od v' < (1 : Int32)
    · rw [if_pos c4]
      exact ⟨_, _, _, rfl, by decide, fun e => absurd z e⟩
    · rw [if_neg c4]
      refine ⟨nI k', _, _, rfl, n_le' (b := 200) (by omega) (by omega) k2, fun e => absurd z e⟩
  · obtain ⟨k0, kv⟩ := k3 (by omega) (by rw [eo]; exact od_1 z)
    by_cases c4 : V_od v' < (1 : Int32)
    · exfalso
      rw [kv, eo, i_lt, z_1] at c4
      have h9 := od_1 z
      rw [i_le, z_1] at h9
      omega
    · rw [if_neg c4, k0]
      exact ⟨nI 0, _, _, rfl, by decide, fun _ => rfl⟩
