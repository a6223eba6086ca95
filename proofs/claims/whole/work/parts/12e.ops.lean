theorem it_tt {α : Type} {i : Decidable (true = true)} {a b : α} : @ite α (true = true) i a b = a := if_pos rfl
theorem it_ff {α : Type} {i : Decidable (false = false)} {a b : α} : @ite α (false = false) i a b = a := if_pos rfl
theorem it_tf {α : Type} {i : Decidable (true = false)} {a b : α} : @ite α (true = false) i a b = b := if_neg (fun h => Bool.noConfusion h)
theorem it_ft {α : Type} {i : Decidable (false = true)} {a b : α} : @ite α (false = true) i a b = b := if_neg (fun h => Bool.noConfusion h)
def putT (u : TS) (i : Nat) (v : Int32) : TS := S_lv_ (S_ac_ u (upd (S_ac u) 6 (S_ac u 6 + (v - S_lv u i)))) (upd (S_lv u) i v)
def putS (s : Nat → Int32) (i : Nat) (v : Int32) : Nat → Int32 := upd (upd s 15 (s 15 + (v - s (41 + i)))) (41 + i) v
theorem e_putLevel {fu : Nat} {u : TS} {i : Nat} {v : Int32} (hi : i < 60) : f_X1_putLevel fu u (nI i) v = some (putT u i v) := by
  unfold f_X1_putLevel
  simp only [nm_d]
  rw [ix_n hi (by omega), ix_n hi (by omega), n_cl (by omega)]
  rfl
theorem e_puts {fu : Nat} {m : TM} {i : Nat} {v : Int32} (hi : i < 60) : f_X5_puts fu m (nI i) v = some (M_ss_ m (putS (M_ss m) i v)) := by
  unfold f_X5_puts
  simp only [nm_d, n_41]
  rw [ix_n (by omega) (by omega), ix_n (by omega) (by omega), n_cl (by omega)]
  rfl
theorem TR_put {u : TS} {s : Nat → Int32} {i : Nat} {v : Int32} (h : TR u s) (hi : i < 60) : TR (putT u i v) (putS s i v) := by
  have h1 := TR_lv (i := i) (x := v) (TR_ac (i := 6) (x := S_ac u 6 + (v - S_lv u i)) h (by omega)) hi
  rw [h.ac (k := 6) (by omega), h.lv hi] at h1
  unfold putT
  rw [h.ac (k := 6) (by omega), h.lv hi]
  exact h1
theorem TI_put {u : TS} {i : Nat} {v : Int32} (h : TI u) (hv : rg v (-9999) 9999) : TI (putT u i v) := TI_lv (TI_ac h) hv
theorem op_setLevel {fu : Nat} (hfu : 2000 ≤ fu) : OP_setLevel RR fu := by
  intro C m p v h
  obtain ⟨hT, hI, hH, hIm, hX⟩ := id h
  unfold f_X4_setLevel f_X5_setLevel
  simp only [e_has, e_isSleeper, e_isLevel, e_isLevel5, bd_s, bf, Bool.not_eq_false, nm_d]
  rw [← hT.sl]
  cases h1 : hs (S_sl (C_now C)) p with
  | false =>
    simp only [it_tt, it_ff, it_tf, it_ft]
    exact ⟨_, _, rfl, rfl, rfl, h.1, h.2.1, h.2.2.1, h.2.2.2.1, h.2.2.2.2⟩
  | true =>
    simp only [it_tt, it_ff, it_tf, it_ft]
    cases h2 : lvb v with
    | false =>
      simp only [it_tt, it_ff, it_tf, it_ft]
      exact ⟨_, _, rfl, rfl, rfl, h.1, h.2.1, h.2.2.1, h.2.2.2.1, h.2.2.2.2⟩
    | true =>
      simp only [it_tt, it_ff, it_tf, it_ft]
      obtain ⟨N, -, -, -, eN, hN1, hN2, -⟩ := hI.nat
      rw [eN] at h1
      obtain ⟨j, rfl, hj⟩ := hs_t h1 (by omega) (by omega)
      obtain ⟨h', q0, q1, q2, q3, q4, q5, pa', ps', e1, e2, hH'⟩ := r_save hfu hH hT hI
      rw [e1, bd_s, e2, bd_s, e_putLevel (by omega), bd_s, e_puts (by omega), bd_s, ix_n (by omega) (by omega), n_41, ix_n (by omega) (by omega), n_cl (by omega), n_cl (by omega)]
      exact ⟨_, _, rfl, rfl, hT.lv (by omega), TR_put hT (by omega), TI_put hI (lvb_t h2), hH', hIm, hX⟩
theorem cp_loop3 {A1 A2 A3 X : Type} {F : (A1 → A2 → A3 → Option X) → A1 → A2 → A3 → Option X} (N : Nat) (s1 : Nat → A1) (s2 : Nat → A2) (s3 : Nat → A3) (out : X) (hend : ∀ rec, F rec (s1 N) (s2 N) (s3 N) = some out) (hstep : ∀ rec k, k < N → F rec (s1 k) (s2 k) (s3 k) = rec (s1 (k + 1)) (s2 (k + 1)) (s3 (k + 1))) : ∀ (n k : Nat), k ≤ N → N - k < n → lq_3 F n (s1 k) (s2 k) (s3 k) = some out := by
  intro n
  induction n with
  | zero => intro k h1 h2; omega
  | succ n ih =>
    intro k h1 h2
    show F (lq_3 F n) (s1 k) (s2 k) (s3 k) = some out
    rcases Nat.lt_or_ge k N with h | h
    · rw [hstep _ k h]
      exact ih (k + 1) (by omega) (by omega)
    · have e : k = N := by omega
      subst e
      exact hend _
theorem cp_loop2 {A1 A2 X : Type} {F : (A1 → A2 → Option X) → A1 → A2 → Option X} (N : Nat) (s1 : Nat → A1) (s2 : Nat → A2) (out : X) (hend : ∀ rec, F rec (s1 N) (s2 N) = some out) (hstep : ∀ rec k, k < N → F rec (s1 k) (s2 k) = rec (s1 (k + 1)) (s2 (k + 1))) : ∀ (n k : Nat), k ≤ N → N - k < n → lq_2 F n (s1 k) (s2 k) = some out := by
  intro n
  induction n with
  | zero => intro k h1 h2; omega
  | succ n ih =>
    intro k h1 h2
    show F (lq_2 F n) (s1 k) (s2 k) = some out
    rcases Nat.lt_or_ge k N with h | h
    · rw [hstep _ k h]
      exact ih (k + 1) (by omega) (by omega)
    · have e : k = N := by omega
      subst e
      exact hend _
theorem e_fill {fu na : Nat} {u : Nat → Int32} {v : Int32} (hna : na ≤ 1000) (hfu : 2000 ≤ fu) : f_J7_fill_53178 fu na u v = some (fl (fun _ => v) u 0 na) := by
  unfold f_J7_fill_53178
  rw [nm_d]
  have h := cp_loop2 (F := lb_J7_fill_53178_5 fu v na (nI na)) na (fun k => nI k) (fun k => fl (fun _ => v) u 0 k) (fl (fun _ => v) u 0 na) (fun rec => by
    unfold lb_J7_fill_53178_5
    exact if_pos (n_le' (by omega) (by omega) (Nat.le_refl na))) (fun rec k hk => by
    unfold lb_J7_fill_53178_5
    rw [if_neg (n_nle (by omega) (by omega) hk), ix_n hk (by omega), nm_d, nm_d, n_p1, n_cl (by omega)]
    have e := fl_s (fun _ => v) u 0 k
    rw [Nat.zero_add] at e
    rw [← e]) fu 0 (by omega) (by omega)
  rw [fl_0] at h
  rw [show lf_J7_fill_53178_5 fu v na (Int32.ofNat na) fu (0 : Int32) u = _ from h]
  rfl
def mkT (u : TS) (n : Int32) : TS := (n, 0, S_nu u, fl (fun _ => 0) (S_lv u) 0 60, fl (fun _ => 0) (S_fo u) 0 60, fl (fun _ => 0) (S_se u) 0 60, fl (fun _ => 0) (S_li u) 0 60, S_jr u, fl (fun _ => 0) (S_ac u) 0 7)
theorem e_makeNew {fu : Nat} {u : TS} {n : Int32} (hfu : 2000 ≤ fu) : f_X1_makeNew fu u n = some (mkT u n) := by
  unfold f_X1_makeNew
  simp only [nm_d]
  rw [e_fill (by omega) hfu, bd_s, e_fill (by omega) hfu, bd_s, e_fill (by omega) hfu, bd_s, e_fill (by omega) hfu, bd_s, e_fill (by omega) hfu, bd_s]
  rfl
theorem fl_in0 {f g : Nat → Int32} {k j : Nat} (h : j < k) : fl f g 0 k j = f j := by
  have := fl_in (f := f) (g := g) (d := 0) h
  rw [Nat.zero_add] at this
  exact this
theorem op_begin {fu : Nat} (hfu : 2000 ≤ fu) : OP_begin RR fu := by
  intro C m n h
  obtain ⟨hT, hI, hH, hIm, hX⟩ := id h
  unfold f_X4_begin f_X5_begin
  simp only [e_within, e_in, bd_s, bf, Bool.not_eq_false, nm_d]
  by_cases hc : (10 : Int32).toInt ≤ n.toInt ∧ n.toInt ≤ (60 : Int32).toInt
  · rw [decide_eq_true hc]; simp only [it_tt, it_ff, it_tf, it_ft]
    obtain ⟨h', q0, q1, q2, q3, q4, q5, pa', ps', e1, e2, hH'⟩ := r_save hfu hH hT hI
    rw [e1, bd_s, e2, bd_s, e_makeNew hfu, bd_s]
    have hl := cp_loop2 (F := lb_X5_begin_35 fu) 272 (fun k => nI (9 + k)) (fun k => M_ss_ (M_ps_ (M_pa_ m pa') ps') (fl (fun _ => 0) (upd (M_ss m) 0 n) 9 k)) (M_ss_ (M_ps_ (M_pa_ m pa') ps') (fl (fun _ => 0) (upd (M_ss m) 0 n) 9 272)) (fun rec => by
      unfold lb_X5_begin_35
      exact if_pos (n_le' (a := 281) (by omega) (by omega) (Nat.le_refl 281))) (fun rec k hk => by
      unfold lb_X5_begin_35
      rw [if_neg (show ¬ (281 : Int32) ≤ nI (9 + k) from n_nle (a := 281) (by omega) (by omega) (by omega)), ix_n (by omega) (by omega), nm_d, nm_d, n_p1, n_cl (by omega), ← fl_s (fun _ => 0) (upd (M_ss m) 0 n) 9 k]
      rfl) fu 0 (by omega) (by omega)
    rw [fl_0] at hl
    rw [show lf_X5_begin_35 fu fu (9 : Int32) (M_ss_ (M_ps_ (M_pa_ m pa') ps') (upd (M_ss (M_ps_ (M_pa_ m pa') ps')) 0 n)) = _ from hl, bd_s]
    have fz : ∀ k, 9 ≤ k → k < 281 → fl (fun _ => (0 : Int32)) (upd (M_ss m) 0 n) 9 272 k = 0 := fun k h1 h2 => by
      unfold fl
      rw [if_pos (by omega)]
    refine ⟨_, _, rfl, rfl, hT.sl, ⟨?_, fun k hk => ?_, fun k hk => ?_, ?_, fun k hk => ?_, fun k hk => ?_, fun k hk => ?_, fun k hk => ?_, fun k hk hj => ?_⟩, ⟨?_, hI.nu, fun k hk => ?_, fun k hk => ?_, ?_, fun j hj => ?_⟩, hH', hIm, hX⟩
    · show n = fl (fun _ => (0 : Int32)) (upd (M_ss m) 0 n) 9 272 0
      rw [fl_out (by omega), pk_us]
    · show S_nu (C_now C) k = fl (fun _ => (0 : Int32)) (upd (M_ss m) 0 n) 9 272 (1 + k)
      rw [fl_out (by omega), pk_un (by omega)]
      exact hT.nu hk
    · show fl (fun _ => (0 : Int32)) (S_ac (C_now C)) 0 7 k = fl (fun _ => (0 : Int32)) (upd (M_ss m) 0 n) 9 272 (9 + k)
      rw [fl_in0 hk, fz (9 + k) (by omega) (by omega)]
    · exact (fz 16 (by omega) (by omega)).symm
    · show fl (fun _ => (0 : Int32)) (S_lv (C_now C)) 0 60 k = fl (fun _ => (0 : Int32)) (upd (M_ss m) 0 n) 9 272 (41 + k)
      rw [fl_in0 hk, fz (41 + k) (by omega) (by omega)]
    · show fl (fun _ => (0 : Int32)) (S_fo (C_now C)) 0 60 k = fl (fun _ => (0 : Int32)) (upd (M_ss m) 0 n) 9 272 (101 + k)
      rw [fl_in0 hk, fz (101 + k) (by omega) (by omega)]
    · show fl (fun _ => (0 : Int32)) (S_se (C_now C)) 0 60 k = fl (fun _ => (0 : Int32)) (upd (M_ss m) 0 n) 9 272 (161 + k)
      rw [fl_in0 hk, fz (161 + k) (by omega) (by omega)]
    · show fl (fun _ => (0 : Int32)) (S_li (C_now C)) 0 60 k = fl (fun _ => (0 : Int32)) (upd (M_ss m) 0 n) 9 272 (221 + k)
      rw [fl_in0 hk, fz (221 + k) (by omega) (by omega)]
    · exfalso
      have hj2 : (k : Int) < 4 * (0 : Int32).toInt := hj
      simp at hj2
      omega
    · show rg n 10 60
      simpa [rg] using hc
    · show rg (fl (fun _ => 0) (S_lv (C_now C)) 0 60 k) (-9999) 9999
      rw [fl_in0 hk]
      simp [rg]
    · show rg (fl (fun _ => 0) (S_fo (C_now C)) 0 60 k) 0 100
      rw [fl_in0 hk]
      simp [rg]
    · show rg (0 : Int32) 0 6
      simp [rg]
    · exfalso
      have hj2 : (j : Int) < (0 : Int32).toInt := hj
      simp at hj2
      omega
  · rw [decide_eq_false hc]; simp only [it_tt, it_ff, it_tf, it_ft]
    exact ⟨_, _, rfl, rfl, rfl, h.1, h.2.1, h.2.2.1, h.2.2.2.1, h.2.2.2.2⟩
