theorem e_within (fu : Nat) (v lo hi : Int32) : f_X4_isWithin fu v lo hi = some (decide (lo.toInt ≤ v.toInt ∧ v.toInt ≤ hi.toInt)) := by
  unfold f_X4_isWithin
  rw [jn_e]
  by_cases h1 : v < lo
  · rw [if_pos h1, decide_eq_false]
    rw [i_lt] at h1
    omega
  · rw [if_neg h1]
    by_cases h2 : hi < v
    · rw [if_pos h2, decide_eq_false]
      rw [i_lt] at h2
      omega
    · rw [if_neg h2, decide_eq_true]
      rw [i_lt] at h1 h2
      omega
theorem e_in (fu : Nat) (v lo hi : Int32) : f_X5_in fu v lo hi = some (decide (lo.toInt ≤ v.toInt ∧ v.toInt ≤ hi.toInt)) := by
  unfold f_X5_in
  rw [jn_e]
  by_cases h1 : v < lo
  · rw [if_pos h1, decide_eq_false]
    rw [i_lt] at h1
    omega
  · rw [if_neg h1]
    by_cases h2 : hi < v
    · rw [if_pos h2, decide_eq_false]
      rw [i_lt] at h2
      omega
    · rw [if_neg h2, decide_eq_true]
      rw [i_lt] at h1 h2
      omega
def hs (n p : Int32) : Bool := decide ((0 : Int32).toInt ≤ p.toInt ∧ p.toInt ≤ (n - 1).toInt)
theorem e_has (fu : Nat) (u : TS) (p : Int32) : f_X1_has fu u p = some (hs (S_sl u) p) := by
  unfold f_X1_has
  simp only [nm_d, e_within, bd_s]
  rfl
theorem e_isSleeper (fu : Nat) (m : TM) (p : Int32) : f_X5_isSleeper fu m p = some (hs (M_ss m 0) p) := by
  unfold f_X5_isSleeper
  simp only [nm_d, e_in, bd_s]
  rfl
theorem hs_t {N : Nat} {p : Int32} (h : hs (nI N) p = true) (h1 : 1 ≤ N) (h2 : N ≤ 1000) : ∃ j : Nat, p = nI j ∧ j < N := by
  unfold hs at h
  rw [decide_eq_true_eq, i_sub (by rw [n_ti (by omega)]; simp; omega) (by rw [n_ti (by omega)]; simp; omega), n_ti (by omega)] at h
  simp at h
  obtain ⟨j, e, e2, -⟩ := i_of (x := p) h.1
  exact ⟨j, e, by omega⟩
def lvb (v : Int32) : Bool := decide ((-9999 : Int32).toInt ≤ v.toInt ∧ v.toInt ≤ (9999 : Int32).toInt)
theorem e_isLevel (fu : Nat) (v : Int32) : f_X4_isLevel fu v = some (lvb v) := by
  unfold f_X4_isLevel
  rw [e_within]
  rfl
theorem e_isLevel5 (fu : Nat) (v : Int32) : f_X5_isLevel fu v = some (lvb v) := by
  unfold f_X5_isLevel
  rw [e_in]
  rfl
theorem lvb_t {v : Int32} (h : lvb v = true) : rg v (-9999) 9999 := by
  unfold lvb at h
  rw [decide_eq_true_eq] at h
  exact h
/-! copies -/
def fl (f g : Nat → Int32) (d k : Nat) : Nat → Int32 := fun j => if d ≤ j ∧ j < d + k then f (j - d) else g j
theorem fl_0 (f g : Nat → Int32) (d : Nat) : fl f g d 0 = g := by
  funext j
  unfold fl
  rw [if_neg (by omega)]
theorem fl_s (f g : Nat → Int32) (d k : Nat) : upd (fl f g d k) (d + k) (f k) = fl f g d (k + 1) := by
  funext j
  by_cases e : j = d + k
  · rw [e, pk_us]
    unfold fl
    rw [if_pos (by omega), Nat.add_sub_cancel_left]
  · rw [pk_un e]
    unfold fl
    by_cases h : d ≤ j ∧ j < d + k
    · rw [if_pos h, if_pos (by omega)]
    · rw [if_neg h, if_neg (by omega)]
theorem fl_in {f g : Nat → Int32} {d k j : Nat} (h : j < k) : fl f g d k (d + j) = f j := by
  unfold fl
  rw [if_pos (by omega), Nat.add_sub_cancel_left]
theorem fl_out {f g : Nat → Int32} {d k j : Nat} (h : j < d ∨ d + k ≤ j) : fl f g d k j = g j := by
  unfold fl
  rw [if_neg (by omega)]
theorem cp_loop {σ : Type} {F : (Int32 → σ → Option σ) → Int32 → σ → Option σ} (N : Nat) (st : Nat → σ) (hend : ∀ rec, F rec (nI N) (st N) = some (st N)) (hstep : ∀ rec k, k < N → F rec (nI k) (st k) = rec (nI (k + 1)) (st (k + 1))) : ∀ (n k : Nat), k ≤ N → N - k < n → lq_2 F n (nI k) (st k) = some (st N) := by
  intro n
  induction n with
  | zero => intro k h1 h2; omega
  | succ n ih =>
    intro k h1 h2
    show F (lq_2 F n) (nI k) (st k) = some (st N)
    rcases Nat.lt_or_ge k N with h | h
    · rw [hstep _ k h]
      exact ih (k + 1) (by omega) (by omega)
    · have e : k = N := by omega
      subst e
      exact hend _
theorem n_le' {a b : Nat} (ha : a < 2147483648) (hb : b < 2147483648) (h : a ≤ b) : nI a ≤ nI b := (n_le ha hb).mpr h
theorem n_nle {a b : Nat} (ha : a < 2147483648) (hb : b < 2147483648) (h : b < a) : ¬ nI a ≤ nI b := fun h2 => by
  have := (n_le ha hb).mp h2
  omega
theorem e_putAside {fu : Nat} (m : TM) (hfu : 2000 ≤ fu) : f_X5_putAside fu m = some (M_as_ m (fl (M_ss m) (M_as m) 0 281)) := by
  have h := cp_loop (F := lb_X5_putAside_2 fu) 281 (fun k => M_as_ m (fl (M_ss m) (M_as m) 0 k)) (fun rec => by
    unfold lb_X5_putAside_2
    exact if_pos (n_le' (a := 281) (by omega) (by omega) (Nat.le_refl 281))) (fun rec k hk => by
    unfold lb_X5_putAside_2
    rw [if_neg (show ¬ (281 : Int32) ≤ nI k from n_nle (a := 281) (by omega) (by omega) hk), ix_n hk (by omega), nm_d, ix_n hk (by omega), nm_d, nm_d, n_p1, n_cl (by omega)]
    have e := fl_s (M_ss m) (M_as m) 0 k
    rw [Nat.zero_add] at e
    rw [← e]
    rfl) fu 0 (by omega) (by omega)
  rw [fl_0] at h
  unfold f_X5_putAside
  rw [show lf_X5_putAside_2 fu fu (0 : Int32) m = _ from h]
  rfl
