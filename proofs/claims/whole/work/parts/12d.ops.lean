/-! the relation between class and reference; the first calls -/
def RI (kp : Nat → Int32) (i0 i1 : TS) (m : TM) : Prop := ∃ k0 k1 : Nat, k0 ≤ 1 ∧ k1 ≤ 1 ∧ kp 0 = nI k0 ∧ kp 1 = nI k1 ∧ M_kp m = nI (k0 + 2 * k1) ∧ (k0 = 1 → TR i0 (M_im m) ∧ TI i0) ∧ (k1 = 1 → TR i1 (fun k => M_im m (281 + k)) ∧ TI i1)
def RX (t : TX) (m : TM) : Prop := ∃ n : Nat, n ≤ 100 ∧ X_ln t = nI n ∧ M_ty m = nI n ∧ ∀ k, k < n → rg (X_ch t k) 0 255 ∧ M_tx m k = (X_ch t k).toInt8.toInt32
def RR (C : TC) (m : TM) : Prop := TR (C_now C) (M_ss m) ∧ TI (C_now C) ∧ RH (C_hi C) (RW (C_r0 C) (C_r1 C) (C_r2 C) (C_r3 C) (C_r4 C) (C_r5 C)) m ∧ RI (C_kp C) (C_i0 C) (C_i1 C) m ∧ RX (C_tx C) m
theorem bt (b : Bool) : (¬ bI b = 0) ↔ b = true := by cases b <;> simp [bI]
theorem bf (b : Bool) : bI b = 0 ↔ b = false := by cases b <;> simp [bI]
theorem op_clearText {fu : Nat} : OP_clearText RR fu := by
  intro C m h
  obtain ⟨h1, h2, h3, h4, n, hn, hx, hm, hk⟩ := h
  refine ⟨_, _, rfl, rfl, ?_, h1, h2, h3, h4, 0, by omega, rfl, rfl, fun k hk => by omega⟩
  rw [hx, hm]
theorem op_account {fu : Nat} : OP_account RR fu := by
  intro C m p h
  have hT := h.1
  unfold f_X4_account f_X5_account
  simp only [e_within, e_in, bd_s, bf, Bool.not_eq_false, nm_d]
  by_cases hc : (0 : Int32).toInt ≤ p.toInt ∧ p.toInt ≤ (6 : Int32).toInt
  · obtain ⟨j, e, e2, -⟩ := i_of (x := p) (by simpa using hc.1)
    have hj : j < 7 := by
      have := hc.2
      simp at this
      omega
    subst e
    rw [decide_eq_true hc, if_pos rfl, if_neg (by decide), ix_n hj (by omega), n_9, ix_n (by omega) (by omega), n_cl (by omega), n_cl (by omega)]
    exact ⟨_, _, rfl, rfl, hT.ac hj, h⟩
  · rw [decide_eq_false hc, if_neg (by decide), if_pos rfl]
    exact ⟨_, _, rfl, rfl, rfl, h.1, h.2.1, h.2.2.1, h.2.2.2.1, h.2.2.2.2⟩
theorem op_appendCharacter {fu : Nat} : OP_appendCharacter RR fu := by
  intro C m p h
  obtain ⟨h1, h2, h3, h4, n, hn, hx, hm, hk⟩ := h
  unfold f_X4_appendCharacter f_X5_appendCharacter
  simp only [e_within, e_in, bd_s, bf, Bool.not_eq_false, nm_d]
  by_cases hc : (0 : Int32).toInt ≤ p.toInt ∧ p.toInt ≤ (255 : Int32).toInt
  · rw [decide_eq_true hc, if_pos rfl, if_pos rfl, hx, hm]
    by_cases h100 : n = 100
    · subst h100
      rw [if_neg (by decide), if_neg (by decide)]
      exact ⟨_, _, rfl, rfl, rfl, h1, h2, h3, h4, 100, by omega, hx, hm, hk⟩
    · rw [if_pos (show nI n < 100 from (n_lt (b := 100) (by omega) (by omega)).mpr (by omega)), if_pos (show ¬ nI n = 100 from fun e => h100 ((n_eq (b := 100) (by omega) (by omega)).mp e)), ix_n (by omega) (by omega), ix_n (by omega) (by omega), n_cl (by omega)]
      refine ⟨_, _, rfl, rfl, ?_, h1, h2, h3, h4, n + 1, by omega, ?_, ?_, fun k hk2 => ?_⟩
      · show X_ln (C_tx C) + 1 = M_ty m + 1
        rw [hx, hm]
      · show X_ln (C_tx C) + 1 = _
        rw [hx, n_p1]
      · show M_ty m + 1 = _
        rw [hm, n_p1]
      · show rg (upd (X_ch (C_tx C)) n p k) 0 255 ∧ upd (M_tx m) n (vp_nar .byte p.toInt8.toInt32) k = (upd (X_ch (C_tx C)) n p k).toInt8.toInt32
        by_cases e : k = n
        · rw [e, pk_us, pk_us]
          exact ⟨by simpa [rg] using hc, pk_vb p⟩
        · rw [pk_un e, pk_un e]
          exact hk k (by omega)
  · rw [decide_eq_false hc, if_neg (by decide), if_neg (by decide)]
    exact ⟨_, _, rfl, rfl, rfl, h1, h2, h3, h4, n, hn, hx, hm, hk⟩
theorem op_job {fu : Nat} : OP_job RR fu := by
  intro C m p q h
  obtain ⟨hT, hI, h3⟩ := id h
  unfold f_X4_job f_X5_job f_X1_jobValue f_X5_jobOf
  simp only [e_within, e_in, bd_s, bf, Bool.not_eq_false, nm_d]
  by_cases hp : p < 0
  · rw [if_pos hp, if_pos hp]
    exact ⟨_, _, rfl, rfl, rfl, h.1, h.2.1, h.2.2.1, h.2.2.2.1, h.2.2.2.2⟩
  · rw [if_neg hp, if_neg hp]
    by_cases hc : (0 : Int32).toInt ≤ q.toInt ∧ q.toInt ≤ (3 : Int32).toInt
    · rw [decide_eq_true hc, if_pos rfl, if_pos rfl, ← hT.jb]
      have hp0 : 0 ≤ p.toInt := by
        rw [i_lt] at hp
        simpa using hp
      obtain ⟨j, e, e2, -⟩ := i_of hp0
      obtain ⟨k, f, f2, -⟩ := i_of (x := q) (by simpa using hc.1)
      have hk : k < 4 := by
        have := hc.2
        simp at this
        omega
      obtain ⟨b1, b2⟩ := hI.jb
      subst e f
      by_cases hj : nI j < S_jb (C_now C)
      · have hj2 : (j : Int) < (S_jb (C_now C)).toInt := by
          rw [i_lt, n_ti (by omega)] at hj
          exact hj
        rw [if_pos hj, if_neg (fun h9 => by rw [i_le] at h9; rw [i_lt] at hj; omega), n_4m, n_m4, n_a, n_17, n_a, ix_n (by omega) (by omega), ix_n (by omega) (by omega), n_cl (by omega), n_cl (by omega)]
        refine ⟨_, _, rfl, rfl, ?_, h⟩
        rw [hT.jr (by omega) (by omega), Nat.add_assoc]
      · rw [if_neg hj, if_pos (by rw [i_le]; rw [i_lt] at hj; omega)]
        exact ⟨_, _, rfl, rfl, rfl, h.1, h.2.1, h.2.2.1, h.2.2.2.1, h.2.2.2.2⟩
    · rw [decide_eq_false hc, if_neg (by decide), if_neg (by decide)]
      exact ⟨_, _, rfl, rfl, rfl, h.1, h.2.1, h.2.2.1, h.2.2.2.1, h.2.2.2.2⟩
