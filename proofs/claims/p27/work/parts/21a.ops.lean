/-! what the calls leave -/
theorem TI_mk {u : TS} {n : Int32} (hI : TI u) (hc : (10 : Int32).toInt ≤ n.toInt ∧ n.toInt ≤ (60 : Int32).toInt) : TI (mkT u n) := by
  refine ⟨?_, hI.nu, fun k hk => ?_, fun k hk => ?_, ?_, fun j hj => ?_⟩
  · show rg n 10 60
    simpa [rg] using hc
  · show rg (fl (fun _ => 0) (S_lv u) 0 60 k) (-9999) 9999
    rw [fl_in0 hk]
    simp [rg]
  · show rg (fl (fun _ => 0) (S_fo u) 0 60 k) 0 100
    rw [fl_in0 hk]
    simp [rg]
  · show rg (0 : Int32) 0 6
    simp [rg]
  · exfalso
    have hj2 : (j : Int) < (0 : Int32).toInt := hj
    simp at hj2
    omega
theorem SI_mk {u : TS} {n : Int32} (hc : (10 : Int32).toInt ≤ n.toInt ∧ n.toInt ≤ (60 : Int32).toInt) : SI (mkT u n) := by
  have h1 : n.toInt ≤ 60 := hc.2
  have h0 : 10 ≤ n.toInt := hc.1
  obtain ⟨N, e, e2, -⟩ := i_of (x := n) (by omega)
  have z : ∀ k, k < 7 → S_ac (mkT u n) k = 0 := fun k hk => fl_in0 (f := fun _ => (0 : Int32)) hk
  have s : S_sl (mkT u n) = nI N := e
  unfold SI
  rw [z 6 (by omega), z 1 (by omega), z 0 (by omega), s, n_cl (by omega)]
  exact ⟨ssum_z N (fun k hk => fl_in0 (f := fun _ => (0 : Int32)) (show k < 60 by omega)), ssum_z N (fun k hk => fl_in0 (f := fun _ => (0 : Int32)) (show k < 60 by omega)), ssum_z N (fun k hk => fl_in0 (f := fun _ => (0 : Int32)) (show k < 60 by omega))⟩
theorem d_begin {fu T z : Nat} {hi : TH} {r0 r1 r2 r3 r4 r5 now : TS} {n : Int32} (hfu : 2000 ≤ fu) (hG : GOOD T now) (hH : HI T hi (RW r0 r1 r2 r3 r4 r5) z) :
    ∃ o, f_X4_begin fu now hi r0 r1 r2 r3 r4 r5 n = some o ∧ ST T z now (hi, r0, r1, r2, r3, r4, r5) o.1 o.2.1 o.2.2 := by
  obtain ⟨hI, hSI, h4⟩ := id hG
  unfold f_X4_begin
  simp only [e_within, bd_s, bf, Bool.not_eq_false, nm_d]
  by_cases hc : (10 : Int32).toInt ≤ n.toInt ∧ n.toInt ≤ (60 : Int32).toInt
  · rw [decide_eq_true hc]; simp only [it_tt, it_ff, it_tf, it_ft, if_true, if_false]
    obtain ⟨h', q0, q1, q2, q3, q4, q5, e1, hH', hT'⟩ := h_save (fu := fu) hH hG
    rw [e1, bd_s, e_makeNew hfu, bd_s]
    refine ⟨_, rfl, Or.inr ⟨?_, ⟨TI_mk hI hc, SI_mk hc, ?_⟩, hH', hT'⟩⟩
    · have := hI.sl.1
      show -50000 < (S_sl now).toInt
      omega
    · show rg (fl (fun _ => 0) (S_ac now) 0 7 4) 0 ((T + 50 : Nat) : Int)
      rw [fl_in0 (by omega)]
      unfold rg
      rw [z_0]
      omega
  · rw [decide_eq_false hc]; simp only [it_tt, it_ff, it_tf, it_ft, if_true, if_false]
    exact ⟨_, rfl, Or.inl ⟨er_1, rfl, rfl⟩⟩
theorem nu_lo {u : TS} (hI : TI u) {k : Nat} (hk : k < 8) : -50000 < (S_nu u k).toInt := by
  obtain ⟨⟨a1, a2⟩, ⟨b1, b2⟩, ⟨c1, c2⟩, ⟨d1, d2, d3, d4⟩, ⟨e1, e2⟩, ⟨f1, f2⟩⟩ := hI.nu
  rcases (show k = 0 ∨ k = 1 ∨ k = 2 ∨ k = 3 ∨ k = 4 ∨ k = 5 ∨ k = 6 ∨ k = 7 by omega) with rfl | rfl | rfl | rfl | rfl | rfl | rfl | rfl <;> omega
theorem d_setNumber {fu T z : Nat} {hi : TH} {r0 r1 r2 r3 r4 r5 now : TS} {p v : Int32} (hG : GOOD T now) (hH : HI T hi (RW r0 r1 r2 r3 r4 r5) z) :
    ∃ o, f_X4_setNumber fu now hi r0 r1 r2 r3 r4 r5 p v = some o ∧ ST T z now (hi, r0, r1, r2, r3, r4, r5) o.1 o.2.1 o.2.2 := by
  obtain ⟨hI, hSI, h4⟩ := id hG
  have h4' : rg (S_ac now 4) 0 ((T + 50 : Nat) : Int) := (hG.up (Nat.le_add_right T 50)).2.2
  unfold f_X4_setNumber
  simp only [e_within, bd_s, bf, Bool.not_eq_false, nm_d]
  by_cases hc : (0 : Int32).toInt ≤ p.toInt ∧ p.toInt ≤ (7 : Int32).toInt
  · rw [decide_eq_true hc, if_neg (by decide)]
    obtain ⟨h', q0, q1, q2, q3, q4, q5, s1, hH', hT'⟩ := h_save (fu := fu) hH hG
    rcases c07 hc with rfl | rfl | rfl | rfl | rfl | rfl | rfl | rfl
    · rw [e_least0, bd_s, e_great0, bd_s]
      by_cases hv : ((1 : Int32)).toInt ≤ v.toInt ∧ v.toInt ≤ ((20 : Int32)).toInt
      · rw [decide_eq_true hv]; simp only [it_tt, it_ff, it_tf, it_ft, if_true, if_false]; rw [ix_v (by decide) (by decide), s1, bd_s, ix_v (by decide) (by decide)]
        exact ⟨_, rfl, Or.inr ⟨nu_lo hI (k := 0) (by omega), ⟨TI_nu0 hI hv, hSI, h4'⟩, hH', hT'⟩⟩
      · rw [decide_eq_false hv]; simp only [it_tt, it_ff, it_tf, it_ft, if_true, if_false]
        exact ⟨_, rfl, Or.inl ⟨er_1, rfl, rfl⟩⟩
    · rw [e_least1, bd_s, e_great1, bd_s]
      by_cases hv : ((0 : Int32)).toInt ≤ v.toInt ∧ v.toInt ≤ ((99 : Int32)).toInt
      · rw [decide_eq_true hv]; simp only [it_tt, it_ff, it_tf, it_ft, if_true, if_false]; rw [ix_v (by decide) (by decide), s1, bd_s, ix_v (by decide) (by decide)]
        exact ⟨_, rfl, Or.inr ⟨nu_lo hI (k := 1) (by omega), ⟨TI_nu1 hI hv, hSI, h4'⟩, hH', hT'⟩⟩
      · rw [decide_eq_false hv]; simp only [it_tt, it_ff, it_tf, it_ft, if_true, if_false]
        exact ⟨_, rfl, Or.inl ⟨er_1, rfl, rfl⟩⟩
    · rw [e_least2, bd_s, e_great2, bd_s]
      by_cases hv : ((1 : Int32)).toInt ≤ v.toInt ∧ v.toInt ≤ ((5 : Int32)).toInt
      · rw [decide_eq_true hv]; simp only [it_tt, it_ff, it_tf, it_ft, if_true, if_false]; rw [ix_v (by decide) (by decide), s1, bd_s, ix_v (by decide) (by decide)]
        exact ⟨_, rfl, Or.inr ⟨nu_lo hI (k := 2) (by omega), ⟨TI_nu2 hI hv, hSI, h4'⟩, hH', hT'⟩⟩
      · rw [decide_eq_false hv]; simp only [it_tt, it_ff, it_tf, it_ft, if_true, if_false]
        exact ⟨_, rfl, Or.inl ⟨er_1, rfl, rfl⟩⟩
    · rw [e_least3, bd_s, e_great3, bd_s]
      by_cases hv : ((1 : Int32)).toInt ≤ v.toInt ∧ v.toInt ≤ (S_nu now 4 - 1).toInt
      · rw [decide_eq_true hv]; simp only [it_tt, it_ff, it_tf, it_ft, if_true, if_false]; rw [ix_v (by decide) (by decide), s1, bd_s, ix_v (by decide) (by decide)]
        exact ⟨_, rfl, Or.inr ⟨nu_lo hI (k := 3) (by omega), ⟨TI_nu3 hI hv, hSI, h4'⟩, hH', hT'⟩⟩
      · rw [decide_eq_false hv]; simp only [it_tt, it_ff, it_tf, it_ft, if_true, if_false]
        exact ⟨_, rfl, Or.inl ⟨er_1, rfl, rfl⟩⟩
    · rw [e_least4, bd_s, e_great4, bd_s]
      by_cases hv : (S_nu now 3 + 1).toInt ≤ v.toInt ∧ v.toInt ≤ (S_nu now 5 - 1).toInt
      · rw [decide_eq_true hv]; simp only [it_tt, it_ff, it_tf, it_ft, if_true, if_false]; rw [ix_v (by decide) (by decide), s1, bd_s, ix_v (by decide) (by decide)]
        exact ⟨_, rfl, Or.inr ⟨nu_lo hI (k := 4) (by omega), ⟨TI_nu4 hI hv, hSI, h4'⟩, hH', hT'⟩⟩
      · rw [decide_eq_false hv]; simp only [it_tt, it_ff, it_tf, it_ft, if_true, if_false]
        exact ⟨_, rfl, Or.inl ⟨er_1, rfl, rfl⟩⟩
    · rw [e_least5, bd_s, e_great5, bd_s]
      by_cases hv : (S_nu now 4 + 1).toInt ≤ v.toInt ∧ v.toInt ≤ ((2000 : Int32)).toInt
      · rw [decide_eq_true hv]; simp only [it_tt, it_ff, it_tf, it_ft, if_true, if_false]; rw [ix_v (by decide) (by decide), s1, bd_s, ix_v (by decide) (by decide)]
        exact ⟨_, rfl, Or.inr ⟨nu_lo hI (k := 5) (by omega), ⟨TI_nu5 hI hv, hSI, h4'⟩, hH', hT'⟩⟩
      · rw [decide_eq_false hv]; simp only [it_tt, it_ff, it_tf, it_ft, if_true, if_false]
        exact ⟨_, rfl, Or.inl ⟨er_1, rfl, rfl⟩⟩
    · rw [e_least6, bd_s, e_great6, bd_s]
      by_cases hv : ((10 : Int32)).toInt ≤ v.toInt ∧ v.toInt ≤ ((500 : Int32)).toInt
      · rw [decide_eq_true hv]; simp only [it_tt, it_ff, it_tf, it_ft, if_true, if_false]; rw [ix_v (by decide) (by decide), s1, bd_s, ix_v (by decide) (by decide)]
        exact ⟨_, rfl, Or.inr ⟨nu_lo hI (k := 6) (by omega), ⟨TI_nu6 hI hv, hSI, h4'⟩, hH', hT'⟩⟩
      · rw [decide_eq_false hv]; simp only [it_tt, it_ff, it_tf, it_ft, if_true, if_false]
        exact ⟨_, rfl, Or.inl ⟨er_1, rfl, rfl⟩⟩
    · rw [e_least7, bd_s, e_great7, bd_s]
      by_cases hv : ((1 : Int32)).toInt ≤ v.toInt ∧ v.toInt ≤ ((50 : Int32)).toInt
      · rw [decide_eq_true hv]; simp only [it_tt, it_ff, it_tf, it_ft, if_true, if_false]; rw [ix_v (by decide) (by decide), s1, bd_s, ix_v (by decide) (by decide)]
        exact ⟨_, rfl, Or.inr ⟨nu_lo hI (k := 7) (by omega), ⟨TI_nu7 hI hv, hSI, h4'⟩, hH', hT'⟩⟩
      · rw [decide_eq_false hv]; simp only [it_tt, it_ff, it_tf, it_ft, if_true, if_false]
        exact ⟨_, rfl, Or.inl ⟨er_1, rfl, rfl⟩⟩
  · rw [decide_eq_false hc, if_pos (by decide)]
    exact ⟨_, rfl, Or.inl ⟨er_1, rfl, rfl⟩⟩
theorem i_ad {x y : Int32} {a b : Int} (hx : x.toInt = a) (hy : y.toInt = b) (h1 : -2147483648 ≤ a + b) (h2 : a + b < 2147483648) : (x + y).toInt = a + b := by
  subst hx hy
  exact i_add h1 h2
theorem d_setLevel {fu T z : Nat} {hi : TH} {r0 r1 r2 r3 r4 r5 now : TS} {p v : Int32} (hG : GOOD T now) (hH : HI T hi (RW r0 r1 r2 r3 r4 r5) z) :
    ∃ o, f_X4_setLevel fu now hi r0 r1 r2 r3 r4 r5 p v = some o ∧ ST T z now (hi, r0, r1, r2, r3, r4, r5) (o.1 + (20000 : Int32)) o.2.1 o.2.2 := by
  obtain ⟨hI, hSI, h4⟩ := id hG
  unfold f_X4_setLevel
  simp only [e_has, e_isLevel, bd_s, bf, Bool.not_eq_false, nm_d]
  cases h1 : hs (S_sl now) p with
  | false =>
    simp only [it_tt, it_ff, it_tf, it_ft]
    exact ⟨_, rfl, Or.inl ⟨er_4, rfl, rfl⟩⟩
  | true =>
    simp only [it_tt, it_ff, it_tf, it_ft]
    cases h2 : lvb v with
    | false =>
      simp only [it_tt, it_ff, it_tf, it_ft]
      exact ⟨_, rfl, Or.inl ⟨er_4, rfl, rfl⟩⟩
    | true =>
      simp only [it_tt, it_ff, it_tf, it_ft]
      obtain ⟨N, -, -, -, eN, hN1, hN2, -⟩ := hI.nat
      rw [eN] at h1
      obtain ⟨j, rfl, hj⟩ := hs_t h1 (by omega) (by omega)
      obtain ⟨h', q0, q1, q2, q3, q4, q5, e1, hH', hT'⟩ := h_save (fu := fu) hH hG
      rw [e1, bd_s, e_putLevel (by omega), bd_s, ix_n (by omega) (by omega), n_cl (by omega)]
      obtain ⟨l1, l2⟩ := hI.lv (k := j) (by omega)
      refine ⟨_, rfl, Or.inr ⟨?_, ⟨TI_put hI (lvb_t h2), SI_put hSI (by rw [eN, n_cl (by omega)]; exact hj), ?_⟩, hH', hT'⟩⟩
      · show -50000 < (S_lv now j + (20000 : Int32)).toInt
        rw [i_ad rfl (show (20000 : Int32).toInt = 20000 from rfl) (by omega) (by omega)]
        omega
      · show rg (upd (S_ac now) 6 (S_ac now 6 + (v - S_lv now j)) 4) 0 ((T + 50 : Nat) : Int)
        rw [pk_un (k := 6) (j := 4) (by omega)]
        exact (hG.up (Nat.le_add_right T 50)).2.2
theorem sgm_rg {f : Nat → Int32} {i : Nat} : ∀ d : Nat, d ≤ 100 → (∀ k, k < d → rg (f (i + k)) 0 100) → 0 ≤ (sgm f i d).toInt ∧ (sgm f i d).toInt ≤ 100 * d
  | 0, _, _ => by
    show 0 ≤ (0 : Int32).toInt ∧ (0 : Int32).toInt ≤ 100 * ((0 : Nat) : Int)
    rw [z_0]
    omega
  | d + 1, hd, h => by
    obtain ⟨a1, a2⟩ := sgm_rg d (by omega) (fun k hk => h k (by omega))
    obtain ⟨b1, b2⟩ := h d (by omega)
    show 0 ≤ (sgm f i d + f (i + d)).toInt ∧ (sgm f i d + f (i + d)).toInt ≤ 100 * ((d + 1 : Nat) : Int)
    rw [i_add (by omega) (by omega)]
    omega
theorem d_renew {fu T z : Nat} {hi : TH} {r0 r1 r2 r3 r4 r5 now : TS} {p q : Int32} (hfu : 2000 ≤ fu) (hG : GOOD T now) (hH : HI T hi (RW r0 r1 r2 r3 r4 r5) z) :
    ∃ o, f_X4_renew fu now hi r0 r1 r2 r3 r4 r5 p q = some o ∧ ST T z now (hi, r0, r1, r2, r3, r4, r5) o.1 o.2.1 o.2.2 := by
  obtain ⟨hI, hSI, h4⟩ := id hG
  unfold f_X4_renew
  simp only [e_stretch, bd_s, bf, Bool.not_eq_false, nm_d]
  cases h1 : hs (S_sl now) p with
  | false =>
    rw [if_neg (by simp)]
    exact ⟨_, rfl, Or.inl ⟨er_1, rfl, rfl⟩⟩
  | true =>
    rw [Bool.true_and]
    by_cases hb : p.toInt ≤ q.toInt ∧ q.toInt ≤ (S_sl now - 1).toInt
    · rw [decide_eq_true hb]; simp only [it_tt, it_ff, it_tf, it_ft, if_true, if_false]
      obtain ⟨N, -, -, -, eN, hN1, hN2, -⟩ := hI.nat
      rw [eN] at h1 hb
      obtain ⟨i, j, rfl, rfl, hij, hj⟩ := str_t h1 (by omega) (by omega) hb
      obtain ⟨h', q0, q1, q2, q3, q4, q5, s1, hH', hT'⟩ := h_save (fu := fu) hH hG
      have l1 := cp_loop3 (F := lb_X4_renew_28 fu (nI j)) (j + 1 - i) (fun k => sgm (S_fo now) i k) (fun k => nI (i + k)) (fun k => S_fo_ now (fl (fun _ => 0) (S_fo now) i k)) (sgm (S_fo now) i (j + 1 - i), S_fo_ now (fl (fun _ => 0) (S_fo now) i (j + 1 - i))) (fun rec => by
        unfold lb_X4_renew_28
        exact if_pos ((n_lt (by omega) (by omega)).mpr (by omega))) (fun rec k hk => by
        unfold lb_X4_renew_28
        rw [if_neg (fun e => by have := (n_lt (by omega) (by omega)).mp e; omega)]
        simp only [nm_d]
        rw [ix_n (by omega) (by omega), ix_n (by omega) (by omega), n_cl (by omega), n_p1, show S_fo (S_fo_ now (fl (fun _ => 0) (S_fo now) i k)) = fl (fun _ => 0) (S_fo now) i k from rfl, fl_out (by omega), ← fl_s (fun _ => 0) (S_fo now) i k]
        rfl) fu 0 (by omega) (by omega)
      rw [fl_0] at l1
      rw [s1, bd_s, show lf_X4_renew_28 fu (nI j) fu (0 : Int32) (nI i) now = _ from l1, bd_s]
      obtain ⟨g1, g2⟩ := sgm_rg (f := S_fo now) (i := i) (j + 1 - i) (by omega) (fun k hk => hI.fo (by omega))
      refine ⟨_, rfl, Or.inr ⟨?_, ⟨TI_fo2 hI, hSI, (hG.up (Nat.le_add_right T 50)).2.2⟩, hH', hT'⟩⟩
      show -50000 < (sgm (S_fo now) i (j + 1 - i)).toInt
      omega
    · rw [decide_eq_false hb]; simp only [it_tt, it_ff, it_tf, it_ft, if_true, if_false]
      exact ⟨_, rfl, Or.inl ⟨er_1, rfl, rfl⟩⟩
theorem d_addJob {fu T z : Nat} {hi : TH} {r0 r1 r2 r3 r4 r5 now : TS} {p q t : Int32} (hG : GOOD T now) (hH : HI T hi (RW r0 r1 r2 r3 r4 r5) z) :
    ∃ o, f_X4_addJob fu now hi r0 r1 r2 r3 r4 r5 p q t = some o ∧ ST T z now (hi, r0, r1, r2, r3, r4, r5) o.1 o.2.1 o.2.2 := by
  obtain ⟨hI, hSI, h4⟩ := id hG
  unfold f_X4_addJob
  simp only [e_stretch, e_isLevel, bd_s, bf, Bool.not_eq_false, nm_d]
  cases h1 : hs (S_sl now) p with
  | false =>
    rw [if_pos (by rfl)]
    exact ⟨_, rfl, Or.inl ⟨er_1, rfl, rfl⟩⟩
  | true =>
    rw [Bool.true_and]
    by_cases hb : p.toInt ≤ q.toInt ∧ q.toInt ≤ (S_sl now - 1).toInt
    · rw [decide_eq_true hb]; simp only [it_tt, it_ff, it_tf, it_ft, if_true, if_false]
      cases h2 : lvb t with
      | false =>
        simp only [it_tt, it_ff, it_tf, it_ft, if_true, if_false]
        exact ⟨_, rfl, Or.inl ⟨er_1, rfl, rfl⟩⟩
      | true =>
        simp only [it_tt, it_ff, it_tf, it_ft, if_true, if_false]
        obtain ⟨b1, b2⟩ := hI.jb
        obtain ⟨J, eJ, eJ2, -⟩ := i_of (x := S_jb now) (by omega)
        rw [eJ]
        by_cases h6 : J = 6
        · subst h6
          rw [if_neg (by decide)]
          exact ⟨_, rfl, Or.inl ⟨er_3, rfl, rfl⟩⟩
        · rw [if_pos (show nI J < 6 from (n_lt (b := 6) (by omega) (by omega)).mpr (by omega))]
          obtain ⟨N, -, -, -, eN, hN1, hN2, -⟩ := hI.nat
          rw [eN] at h1 hb
          obtain ⟨i, j, rfl, rfl, hij, hj⟩ := str_t h1 (by omega) (by omega) hb
          obtain ⟨h', q0, q1, q2, q3, q4, q5, s1, hH', hT'⟩ := h_save (fu := fu) hH hG
          rw [s1, bd_s, e_appendJob eJ (by omega), bd_s]
          refine ⟨_, rfl, Or.inr ⟨?_, ⟨?_, hSI, (hG.up (Nat.le_add_right T 50)).2.2⟩, hH', hT'⟩⟩
          · show -50000 < (nI (J + 1)).toInt
            rw [n_ti (by omega)]
            omega
          · obtain ⟨g0, g1, g2, g3, g4, g5⟩ := hI
            refine ⟨g0, g1, g2, g3, ?_, fun z hz => ?_⟩
            · show rg (nI (J + 1)) 0 6
              unfold rg
              rw [n_ti (by omega)]
              omega
            · have hz2 : (z : Int) < (nI (J + 1)).toInt := hz
              rw [n_ti (by omega)] at hz2
              unfold JI
              show 0 ≤ (jr4 (S_jr now) (4 * J) (nI i) (nI j) t (4 * z)).toInt ∧ (jr4 (S_jr now) (4 * J) (nI i) (nI j) t (4 * z)).toInt ≤ (jr4 (S_jr now) (4 * J) (nI i) (nI j) t (4 * z + 3)).toInt ∧ (jr4 (S_jr now) (4 * J) (nI i) (nI j) t (4 * z + 3)).toInt ≤ (jr4 (S_jr now) (4 * J) (nI i) (nI j) t (4 * z + 1)).toInt ∧ (jr4 (S_jr now) (4 * J) (nI i) (nI j) t (4 * z + 1)).toInt < (S_sl now).toInt ∧ rg (jr4 (S_jr now) (4 * J) (nI i) (nI j) t (4 * z + 2)) (-9999) 9999
              by_cases e : z = J
              · subst e
                obtain ⟨x0, x1, x2, x3⟩ := jr4_0 (f := S_jr now) (d := 4 * z) (a := nI i) (b := nI j) (t := t)
                rw [x0, x1, x2, x3, eN, n_ti (by omega), n_ti (by omega), n_ti (by omega)]
                exact ⟨by omega, by omega, by omega, by omega, lvb_t h2⟩
              · rw [jr4_n (by omega), jr4_n (by omega), jr4_n (by omega), jr4_n (by omega)]
                exact g5 z (by omega)
    · rw [decide_eq_false hb]; simp only [it_tt, it_ff, it_tf, it_ft, if_true, if_false]
      exact ⟨_, rfl, Or.inl ⟨er_1, rfl, rfl⟩⟩
