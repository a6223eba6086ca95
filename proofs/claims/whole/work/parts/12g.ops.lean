theorem e_least0 (fu : Nat) (u : TS) : f_X4_leastNumber fu u (0 : Int32) = some ((1 : Int32)) := by
  unfold f_X4_leastNumber
  simp only [nm_d, jn_e]
  rw [if_neg (by decide), if_pos (by decide), ix_v (by decide) (by decide)]
  rfl
theorem e_great0 (fu : Nat) (u : TS) : f_X4_greatestNumber fu u (0 : Int32) = some ((20 : Int32)) := by
  unfold f_X4_greatestNumber
  simp only [nm_d, jn_e]
  rw [if_neg (by decide), if_pos (by decide), ix_v (by decide) (by decide)]
  rfl
theorem e_isNumber0 (fu : Nat) (m : TM) (v : Int32) : f_X5_isNumber fu m (0 : Int32) v = some (decide (((1 : Int32)).toInt ≤ v.toInt ∧ v.toInt ≤ ((20 : Int32)).toInt)) := by
  unfold f_X5_isNumber
  simp only [nm_d, e_in, bd_s]
  rw [if_pos (by decide)]
theorem e_least1 (fu : Nat) (u : TS) : f_X4_leastNumber fu u (1 : Int32) = some ((0 : Int32)) := by
  unfold f_X4_leastNumber
  simp only [nm_d, jn_e]
  rw [if_neg (by decide), if_pos (by decide), ix_v (by decide) (by decide)]
  rfl
theorem e_great1 (fu : Nat) (u : TS) : f_X4_greatestNumber fu u (1 : Int32) = some ((99 : Int32)) := by
  unfold f_X4_greatestNumber
  simp only [nm_d, jn_e]
  rw [if_neg (by decide), if_pos (by decide), ix_v (by decide) (by decide)]
  rfl
theorem e_isNumber1 (fu : Nat) (m : TM) (v : Int32) : f_X5_isNumber fu m (1 : Int32) v = some (decide (((0 : Int32)).toInt ≤ v.toInt ∧ v.toInt ≤ ((99 : Int32)).toInt)) := by
  unfold f_X5_isNumber
  simp only [nm_d, e_in, bd_s]
  rw [if_neg (by decide), if_pos (by decide)]
theorem e_least2 (fu : Nat) (u : TS) : f_X4_leastNumber fu u (2 : Int32) = some ((1 : Int32)) := by
  unfold f_X4_leastNumber
  simp only [nm_d, jn_e]
  rw [if_neg (by decide), if_pos (by decide), ix_v (by decide) (by decide)]
  rfl
theorem e_great2 (fu : Nat) (u : TS) : f_X4_greatestNumber fu u (2 : Int32) = some ((5 : Int32)) := by
  unfold f_X4_greatestNumber
  simp only [nm_d, jn_e]
  rw [if_neg (by decide), if_pos (by decide), ix_v (by decide) (by decide)]
  rfl
theorem e_isNumber2 (fu : Nat) (m : TM) (v : Int32) : f_X5_isNumber fu m (2 : Int32) v = some (decide (((1 : Int32)).toInt ≤ v.toInt ∧ v.toInt ≤ ((5 : Int32)).toInt)) := by
  unfold f_X5_isNumber
  simp only [nm_d, e_in, bd_s]
  rw [if_neg (by decide), if_neg (by decide), if_pos (by decide)]
theorem e_least3 (fu : Nat) (u : TS) : f_X4_leastNumber fu u (3 : Int32) = some ((1 : Int32)) := by
  unfold f_X4_leastNumber
  simp only [nm_d, jn_e]
  rw [if_neg (by decide), if_pos (by decide), ix_v (by decide) (by decide)]
  rfl
theorem e_great3 (fu : Nat) (u : TS) : f_X4_greatestNumber fu u (3 : Int32) = some (S_nu u 4 - 1) := by
  unfold f_X4_greatestNumber
  simp only [nm_d, jn_e]
  rw [if_pos (by decide), ix_v (by decide) (by decide)]
  rfl
theorem e_isNumber3 (fu : Nat) (m : TM) (v : Int32) : f_X5_isNumber fu m (3 : Int32) v = some (decide (((1 : Int32)).toInt ≤ v.toInt ∧ v.toInt ≤ (M_ss m 5 - 1).toInt)) := by
  unfold f_X5_isNumber
  simp only [nm_d, e_in, bd_s]
  rw [if_neg (by decide), if_neg (by decide), if_neg (by decide), if_pos (by decide)]
theorem e_least4 (fu : Nat) (u : TS) : f_X4_leastNumber fu u (4 : Int32) = some (S_nu u 3 + 1) := by
  unfold f_X4_leastNumber
  simp only [nm_d, jn_e]
  rw [if_pos (by decide), ix_v (by decide) (by decide)]
  rfl
theorem e_great4 (fu : Nat) (u : TS) : f_X4_greatestNumber fu u (4 : Int32) = some (S_nu u 5 - 1) := by
  unfold f_X4_greatestNumber
  simp only [nm_d, jn_e]
  rw [if_neg (by decide), if_neg (by decide), ix_v (by decide) (by decide)]
  rfl
theorem e_isNumber4 (fu : Nat) (m : TM) (v : Int32) : f_X5_isNumber fu m (4 : Int32) v = some (decide ((M_ss m 4 + 1).toInt ≤ v.toInt ∧ v.toInt ≤ (M_ss m 6 - 1).toInt)) := by
  unfold f_X5_isNumber
  simp only [nm_d, e_in, bd_s]
  rw [if_neg (by decide), if_neg (by decide), if_neg (by decide), if_neg (by decide), if_pos (by decide)]
theorem e_least5 (fu : Nat) (u : TS) : f_X4_leastNumber fu u (5 : Int32) = some (S_nu u 4 + 1) := by
  unfold f_X4_leastNumber
  simp only [nm_d, jn_e]
  rw [if_neg (by decide), if_neg (by decide), ix_v (by decide) (by decide)]
  rfl
theorem e_great5 (fu : Nat) (u : TS) : f_X4_greatestNumber fu u (5 : Int32) = some ((2000 : Int32)) := by
  unfold f_X4_greatestNumber
  simp only [nm_d, jn_e]
  rw [if_neg (by decide), if_pos (by decide), ix_v (by decide) (by decide)]
  rfl
theorem e_isNumber5 (fu : Nat) (m : TM) (v : Int32) : f_X5_isNumber fu m (5 : Int32) v = some (decide ((M_ss m 5 + 1).toInt ≤ v.toInt ∧ v.toInt ≤ ((2000 : Int32)).toInt)) := by
  unfold f_X5_isNumber
  simp only [nm_d, e_in, bd_s]
  rw [if_neg (by decide), if_neg (by decide), if_neg (by decide), if_neg (by decide), if_neg (by decide), if_pos (by decide)]
theorem e_least6 (fu : Nat) (u : TS) : f_X4_leastNumber fu u (6 : Int32) = some ((10 : Int32)) := by
  unfold f_X4_leastNumber
  simp only [nm_d, jn_e]
  rw [if_neg (by decide), if_pos (by decide), ix_v (by decide) (by decide)]
  rfl
theorem e_great6 (fu : Nat) (u : TS) : f_X4_greatestNumber fu u (6 : Int32) = some ((500 : Int32)) := by
  unfold f_X4_greatestNumber
  simp only [nm_d, jn_e]
  rw [if_neg (by decide), if_pos (by decide), ix_v (by decide) (by decide)]
  rfl
theorem e_isNumber6 (fu : Nat) (m : TM) (v : Int32) : f_X5_isNumber fu m (6 : Int32) v = some (decide (((10 : Int32)).toInt ≤ v.toInt ∧ v.toInt ≤ ((500 : Int32)).toInt)) := by
  unfold f_X5_isNumber
  simp only [nm_d, e_in, bd_s]
  rw [if_neg (by decide), if_neg (by decide), if_neg (by decide), if_neg (by decide), if_neg (by decide), if_neg (by decide), if_pos (by decide)]
theorem e_least7 (fu : Nat) (u : TS) : f_X4_leastNumber fu u (7 : Int32) = some ((1 : Int32)) := by
  unfold f_X4_leastNumber
  simp only [nm_d, jn_e]
  rw [if_neg (by decide), if_pos (by decide), ix_v (by decide) (by decide)]
  rfl
theorem e_great7 (fu : Nat) (u : TS) : f_X4_greatestNumber fu u (7 : Int32) = some ((50 : Int32)) := by
  unfold f_X4_greatestNumber
  simp only [nm_d, jn_e]
  rw [if_neg (by decide), if_pos (by decide), ix_v (by decide) (by decide)]
  rfl
theorem e_isNumber7 (fu : Nat) (m : TM) (v : Int32) : f_X5_isNumber fu m (7 : Int32) v = some (decide (((1 : Int32)).toInt ≤ v.toInt ∧ v.toInt ≤ ((50 : Int32)).toInt)) := by
  unfold f_X5_isNumber
  simp only [nm_d, e_in, bd_s]
  rw [if_neg (by decide), if_neg (by decide), if_neg (by decide), if_neg (by decide), if_neg (by decide), if_neg (by decide), if_neg (by decide), if_pos (by decide)]
theorem e_isNumberN (fu : Nat) (m : TM) (p v : Int32) (h : ¬ ((0 : Int32).toInt ≤ p.toInt ∧ p.toInt ≤ (7 : Int32).toInt)) : f_X5_isNumber fu m p v = some false := by
  unfold f_X5_isNumber
  have hk : ∀ k : Int32, (0 : Int32).toInt ≤ k.toInt ∧ k.toInt ≤ (7 : Int32).toInt → ¬ p = k := fun k hk e => h (e ▸ hk)
  rw [if_neg (hk 0 (by decide)), if_neg (hk 1 (by decide)), if_neg (hk 2 (by decide)), if_neg (hk 3 (by decide)), if_neg (hk 4 (by decide)), if_neg (hk 5 (by decide)), if_neg (hk 6 (by decide)), if_neg (hk 7 (by decide))]
theorem c07 {p : Int32} (h : (0 : Int32).toInt ≤ p.toInt ∧ p.toInt ≤ (7 : Int32).toInt) : p = 0 ∨ p = 1 ∨ p = 2 ∨ p = 3 ∨ p = 4 ∨ p = 5 ∨ p = 6 ∨ p = 7 := by
  obtain ⟨h1, h2⟩ := h
  simp at h1 h2
  simp only [i_eq]
  simp
  omega
theorem TI_nu0 {u : TS} {v : Int32} (h : TI u) (hv : ((1 : Int32)).toInt ≤ v.toInt ∧ v.toInt ≤ ((20 : Int32)).toInt) : TI (S_nu_ u (upd (S_nu u) 0 v)) := by
  have e0 : S_nu (S_nu_ u (upd (S_nu u) 0 v)) 0 = v := show upd (S_nu u) 0 v 0 = v from pk_us
  have e1 : S_nu (S_nu_ u (upd (S_nu u) 0 v)) 1 = S_nu u 1 := show upd (S_nu u) 0 v 1 = S_nu u 1 from pk_un (by decide)
  have e2 : S_nu (S_nu_ u (upd (S_nu u) 0 v)) 2 = S_nu u 2 := show upd (S_nu u) 0 v 2 = S_nu u 2 from pk_un (by decide)
  have e3 : S_nu (S_nu_ u (upd (S_nu u) 0 v)) 3 = S_nu u 3 := show upd (S_nu u) 0 v 3 = S_nu u 3 from pk_un (by decide)
  have e4 : S_nu (S_nu_ u (upd (S_nu u) 0 v)) 4 = S_nu u 4 := show upd (S_nu u) 0 v 4 = S_nu u 4 from pk_un (by decide)
  have e5 : S_nu (S_nu_ u (upd (S_nu u) 0 v)) 5 = S_nu u 5 := show upd (S_nu u) 0 v 5 = S_nu u 5 from pk_un (by decide)
  have e6 : S_nu (S_nu_ u (upd (S_nu u) 0 v)) 6 = S_nu u 6 := show upd (S_nu u) 0 v 6 = S_nu u 6 from pk_un (by decide)
  have e7 : S_nu (S_nu_ u (upd (S_nu u) 0 v)) 7 = S_nu u 7 := show upd (S_nu u) 0 v 7 = S_nu u 7 from pk_un (by decide)
  obtain ⟨h0, h1, h2, h3, h4, h5⟩ := h
  refine ⟨h0, ?_, h2, h3, h4, h5⟩
  rw [e0, e1, e2, e3, e4, e5, e6, e7]
  obtain ⟨a, b, c, d, e, f⟩ := h1
  obtain ⟨d1, d2, d3, d4⟩ := d
  simp at hv
  unfold rg at *
  refine ⟨?_, ?_, ?_, ?_, ?_, ?_⟩ <;> omega
theorem TI_nu1 {u : TS} {v : Int32} (h : TI u) (hv : ((0 : Int32)).toInt ≤ v.toInt ∧ v.toInt ≤ ((99 : Int32)).toInt) : TI (S_nu_ u (upd (S_nu u) 1 v)) := by
  have e0 : S_nu (S_nu_ u (upd (S_nu u) 1 v)) 0 = S_nu u 0 := show upd (S_nu u) 1 v 0 = S_nu u 0 from pk_un (by decide)
  have e1 : S_nu (S_nu_ u (upd (S_nu u) 1 v)) 1 = v := show upd (S_nu u) 1 v 1 = v from pk_us
  have e2 : S_nu (S_nu_ u (upd (S_nu u) 1 v)) 2 = S_nu u 2 := show upd (S_nu u) 1 v 2 = S_nu u 2 from pk_un (by decide)
  have e3 : S_nu (S_nu_ u (upd (S_nu u) 1 v)) 3 = S_nu u 3 := show upd (S_nu u) 1 v 3 = S_nu u 3 from pk_un (by decide)
  have e4 : S_nu (S_nu_ u (upd (S_nu u) 1 v)) 4 = S_nu u 4 := show upd (S_nu u) 1 v 4 = S_nu u 4 from pk_un (by decide)
  have e5 : S_nu (S_nu_ u (upd (S_nu u) 1 v)) 5 = S_nu u 5 := show upd (S_nu u) 1 v 5 = S_nu u 5 from pk_un (by decide)
  have e6 : S_nu (S_nu_ u (upd (S_nu u) 1 v)) 6 = S_nu u 6 := show upd (S_nu u) 1 v 6 = S_nu u 6 from pk_un (by decide)
  have e7 : S_nu (S_nu_ u (upd (S_nu u) 1 v)) 7 = S_nu u 7 := show upd (S_nu u) 1 v 7 = S_nu u 7 from pk_un (by decide)
  obtain ⟨h0, h1, h2, h3, h4, h5⟩ := h
  refine ⟨h0, ?_, h2, h3, h4, h5⟩
  rw [e0, e1, e2, e3, e4, e5, e6, e7]
  obtain ⟨a, b, c, d, e, f⟩ := h1
  obtain ⟨d1, d2, d3, d4⟩ := d
  simp at hv
  unfold rg at *
  refine ⟨?_, ?_, ?_, ?_, ?_, ?_⟩ <;> omega
theorem TI_nu2 {u : TS} {v : Int32} (h : TI u) (hv : ((1 : Int32)).toInt ≤ v.toInt ∧ v.toInt ≤ ((5 : Int32)).toInt) : TI (S_nu_ u (upd (S_nu u) 2 v)) := by
  have e0 : S_nu (S_nu_ u (upd (S_nu u) 2 v)) 0 = S_nu u 0 := show upd (S_nu u) 2 v 0 = S_nu u 0 from pk_un (by decide)
  have e1 : S_nu (S_nu_ u (upd (S_nu u) 2 v)) 1 = S_nu u 1 := show upd (S_nu u) 2 v 1 = S_nu u 1 from pk_un (by decide)
  have e2 : S_nu (S_nu_ u (upd (S_nu u) 2 v)) 2 = v := show upd (S_nu u) 2 v 2 = v from pk_us
  have e3 : S_nu (S_nu_ u (upd (S_nu u) 2 v)) 3 = S_nu u 3 := show upd (S_nu u) 2 v 3 = S_nu u 3 from pk_un (by decide)
  have e4 : S_nu (S_nu_ u (upd (S_nu u) 2 v)) 4 = S_nu u 4 := show upd (S_nu u) 2 v 4 = S_nu u 4 from pk_un (by decide)
  have e5 : S_nu (S_nu_ u (upd (S_nu u) 2 v)) 5 = S_nu u 5 := show upd (S_nu u) 2 v 5 = S_nu u 5 from pk_un (by decide)
  have e6 : S_nu (S_nu_ u (upd (S_nu u) 2 v)) 6 = S_nu u 6 := show upd (S_nu u) 2 v 6 = S_nu u 6 from pk_un (by decide)
  have e7 : S_nu (S_nu_ u (upd (S_nu u) 2 v)) 7 = S_nu u 7 := show upd (S_nu u) 2 v 7 = S_nu u 7 from pk_un (by decide)
  obtain ⟨h0, h1, h2, h3, h4, h5⟩ := h
  refine ⟨h0, ?_, h2, h3, h4, h5⟩
  rw [e0, e1, e2, e3, e4, e5, e6, e7]
  obtain ⟨a, b, c, d, e, f⟩ := h1
  obtain ⟨d1, d2, d3, d4⟩ := d
  simp at hv
  unfold rg at *
  refine ⟨?_, ?_, ?_, ?_, ?_, ?_⟩ <;> omega
theorem TI_nu3 {u : TS} {v : Int32} (h : TI u) (hv : ((1 : Int32)).toInt ≤ v.toInt ∧ v.toInt ≤ (S_nu u 4 - 1).toInt) : TI (S_nu_ u (upd (S_nu u) 3 v)) := by
  have e0 : S_nu (S_nu_ u (upd (S_nu u) 3 v)) 0 = S_nu u 0 := show upd (S_nu u) 3 v 0 = S_nu u 0 from pk_un (by decide)
  have e1 : S_nu (S_nu_ u (upd (S_nu u) 3 v)) 1 = S_nu u 1 := show upd (S_nu u) 3 v 1 = S_nu u 1 from pk_un (by decide)
  have e2 : S_nu (S_nu_ u (upd (S_nu u) 3 v)) 2 = S_nu u 2 := show upd (S_nu u) 3 v 2 = S_nu u 2 from pk_un (by decide)
  have e3 : S_nu (S_nu_ u (upd (S_nu u) 3 v)) 3 = v := show upd (S_nu u) 3 v 3 = v from pk_us
  have e4 : S_nu (S_nu_ u (upd (S_nu u) 3 v)) 4 = S_nu u 4 := show upd (S_nu u) 3 v 4 = S_nu u 4 from pk_un (by decide)
  have e5 : S_nu (S_nu_ u (upd (S_nu u) 3 v)) 5 = S_nu u 5 := show upd (S_nu u) 3 v 5 = S_nu u 5 from pk_un (by decide)
  have e6 : S_nu (S_nu_ u (upd (S_nu u) 3 v)) 6 = S_nu u 6 := show upd (S_nu u) 3 v 6 = S_nu u 6 from pk_un (by decide)
  have e7 : S_nu (S_nu_ u (upd (S_nu u) 3 v)) 7 = S_nu u 7 := show upd (S_nu u) 3 v 7 = S_nu u 7 from pk_un (by decide)
  obtain ⟨h0, h1, h2, h3, h4, h5⟩ := h
  refine ⟨h0, ?_, h2, h3, h4, h5⟩
  rw [e0, e1, e2, e3, e4, e5, e6, e7]
  obtain ⟨a, b, c, d, e, f⟩ := h1
  obtain ⟨d1, d2, d3, d4⟩ := d
  rw [i_sub (by simp; omega) (by simp; omega)] at hv
  simp at hv
  unfold rg at *
  refine ⟨?_, ?_, ?_, ?_, ?_, ?_⟩ <;> omega
theorem TI_nu4 {u : TS} {v : Int32} (h : TI u) (hv : (S_nu u 3 + 1).toInt ≤ v.toInt ∧ v.toInt ≤ (S_nu u 5 - 1).toInt) : TI (S_nu_ u (upd (S_nu u) 4 v)) := by
  have e0 : S_nu (S_nu_ u (upd (S_nu u) 4 v)) 0 = S_nu u 0 := show upd (S_nu u) 4 v 0 = S_nu u 0 from pk_un (by decide)
  have e1 : S_nu (S_nu_ u (upd (S_nu u) 4 v)) 1 = S_nu u 1 := show upd (S_nu u) 4 v 1 = S_nu u 1 from pk_un (by decide)
  have e2 : S_nu (S_nu_ u (upd (S_nu u) 4 v)) 2 = S_nu u 2 := show upd (S_nu u) 4 v 2 = S_nu u 2 from pk_un (by decide)
  have e3 : S_nu (S_nu_ u (upd (S_nu u) 4 v)) 3 = S_nu u 3 := show upd (S_nu u) 4 v 3 = S_nu u 3 from pk_un (by decide)
  have e4 : S_nu (S_nu_ u (upd (S_nu u) 4 v)) 4 = v := show upd (S_nu u) 4 v 4 = v from pk_us
  have e5 : S_nu (S_nu_ u (upd (S_nu u) 4 v)) 5 = S_nu u 5 := show upd (S_nu u) 4 v 5 = S_nu u 5 from pk_un (by decide)
  have e6 : S_nu (S_nu_ u (upd (S_nu u) 4 v)) 6 = S_nu u 6 := show upd (S_nu u) 4 v 6 = S_nu u 6 from pk_un (by decide)
  have e7 : S_nu (S_nu_ u (upd (S_nu u) 4 v)) 7 = S_nu u 7 := show upd (S_nu u) 4 v 7 = S_nu u 7 from pk_un (by decide)
  obtain ⟨h0, h1, h2, h3, h4, h5⟩ := h
  refine ⟨h0, ?_, h2, h3, h4, h5⟩
  rw [e0, e1, e2, e3, e4, e5, e6, e7]
  obtain ⟨a, b, c, d, e, f⟩ := h1
  obtain ⟨d1, d2, d3, d4⟩ := d
  rw [i_sub (by simp; omega) (by simp; omega), i_add (by simp; omega) (by simp; omega)] at hv
  simp at hv
  unfold rg at *
  refine ⟨?_, ?_, ?_, ?_, ?_, ?_⟩ <;> omega
theorem TI_nu5 {u : TS} {v : Int32} (h : TI u) (hv : (S_nu u 4 + 1).toInt ≤ v.toInt ∧ v.toInt ≤ ((2000 : Int32)).toInt) : TI (S_nu_ u (upd (S_nu u) 5 v)) := by
  have e0 : S_nu (S_nu_ u (upd (S_nu u) 5 v)) 0 = S_nu u 0 := show upd (S_nu u) 5 v 0 = S_nu u 0 from pk_un (by decide)
  have e1 : S_nu (S_nu_ u (upd (S_nu u) 5 v)) 1 = S_nu u 1 := show upd (S_nu u) 5 v 1 = S_nu u 1 from pk_un (by decide)
  have e2 : S_nu (S_nu_ u (upd (S_nu u) 5 v)) 2 = S_nu u 2 := show upd (S_nu u) 5 v 2 = S_nu u 2 from pk_un (by decide)
  have e3 : S_nu (S_nu_ u (upd (S_nu u) 5 v)) 3 = S_nu u 3 := show upd (S_nu u) 5 v 3 = S_nu u 3 from pk_un (by decide)
  have e4 : S_nu (S_nu_ u (upd (S_nu u) 5 v)) 4 = S_nu u 4 := show upd (S_nu u) 5 v 4 = S_nu u 4 from pk_un (by decide)
  have e5 : S_nu (S_nu_ u (upd (S_nu u) 5 v)) 5 = v := show upd (S_nu u) 5 v 5 = v from pk_us
  have e6 : S_nu (S_nu_ u (upd (S_nu u) 5 v)) 6 = S_nu u 6 := show upd (S_nu u) 5 v 6 = S_nu u 6 from pk_un (by decide)
  have e7 : S_nu (S_nu_ u (upd (S_nu u) 5 v)) 7 = S_nu u 7 := show upd (S_nu u) 5 v 7 = S_nu u 7 from pk_un (by decide)
  obtain ⟨h0, h1, h2, h3, h4, h5⟩ := h
  refine ⟨h0, ?_, h2, h3, h4, h5⟩
  rw [e0, e1, e2, e3, e4, e5, e6, e7]
  obtain ⟨a, b, c, d, e, f⟩ := h1
  obtain ⟨d1, d2, d3, d4⟩ := d
  rw [i_add (by simp; omega) (by simp; omega)] at hv
  simp at hv
  unfold rg at *
  refine ⟨?_, ?_, ?_, ?_, ?_, ?_⟩ <;> omega
theorem TI_nu6 {u : TS} {v : Int32} (h : TI u) (hv : ((10 : Int32)).toInt ≤ v.toInt ∧ v.toInt ≤ ((500 : Int32)).toInt) : TI (S_nu_ u (upd (S_nu u) 6 v)) := by
  have e0 : S_nu (S_nu_ u (upd (S_nu u) 6 v)) 0 = S_nu u 0 := show upd (S_nu u) 6 v 0 = S_nu u 0 from pk_un (by decide)
  have e1 : S_nu (S_nu_ u (upd (S_nu u) 6 v)) 1 = S_nu u 1 := show upd (S_nu u) 6 v 1 = S_nu u 1 from pk_un (by decide)
  have e2 : S_nu (S_nu_ u (upd (S_nu u) 6 v)) 2 = S_nu u 2 := show upd (S_nu u) 6 v 2 = S_nu u 2 from pk_un (by decide)
  have e3 : S_nu (S_nu_ u (upd (S_nu u) 6 v)) 3 = S_nu u 3 := show upd (S_nu u) 6 v 3 = S_nu u 3 from pk_un (by decide)
  have e4 : S_nu (S_nu_ u (upd (S_nu u) 6 v)) 4 = S_nu u 4 := show upd (S_nu u) 6 v 4 = S_nu u 4 from pk_un (by decide)
  have e5 : S_nu (S_nu_ u (upd (S_nu u) 6 v)) 5 = S_nu u 5 := show upd (S_nu u) 6 v 5 = S_nu u 5 from pk_un (by decide)
  have e6 : S_nu (S_nu_ u (upd (S_nu u) 6 v)) 6 = v := show upd (S_nu u) 6 v 6 = v from pk_us
  have e7 : S_nu (S_nu_ u (upd (S_nu u) 6 v)) 7 = S_nu u 7 := show upd (S_nu u) 6 v 7 = S_nu u 7 from pk_un (by decide)
  obtain ⟨h0, h1, h2, h3, h4, h5⟩ := h
  refine ⟨h0, ?_, h2, h3, h4, h5⟩
  rw [e0, e1, e2, e3, e4, e5, e6, e7]
  obtain ⟨a, b, c, d, e, f⟩ := h1
  obtain ⟨d1, d2, d3, d4⟩ := d
  simp at hv
  unfold rg at *
  refine ⟨?_, ?_, ?_, ?_, ?_, ?_⟩ <;> omega
theorem TI_nu7 {u : TS} {v : Int32} (h : TI u) (hv : ((1 : Int32)).toInt ≤ v.toInt ∧ v.toInt ≤ ((50 : Int32)).toInt) : TI (S_nu_ u (upd (S_nu u) 7 v)) := by
  have e0 : S_nu (S_nu_ u (upd (S_nu u) 7 v)) 0 = S_nu u 0 := show upd (S_nu u) 7 v 0 = S_nu u 0 from pk_un (by decide)
  have e1 : S_nu (S_nu_ u (upd (S_nu u) 7 v)) 1 = S_nu u 1 := show upd (S_nu u) 7 v 1 = S_nu u 1 from pk_un (by decide)
  have e2 : S_nu (S_nu_ u (upd (S_nu u) 7 v)) 2 = S_nu u 2 := show upd (S_nu u) 7 v 2 = S_nu u 2 from pk_un (by decide)
  have e3 : S_nu (S_nu_ u (upd (S_nu u) 7 v)) 3 = S_nu u 3 := show upd (S_nu u) 7 v 3 = S_nu u 3 from pk_un (by decide)
  have e4 : S_nu (S_nu_ u (upd (S_nu u) 7 v)) 4 = S_nu u 4 := show upd (S_nu u) 7 v 4 = S_nu u 4 from pk_un (by decide)
  have e5 : S_nu (S_nu_ u (upd (S_nu u) 7 v)) 5 = S_nu u 5 := show upd (S_nu u) 7 v 5 = S_nu u 5 from pk_un (by decide)
  have e6 : S_nu (S_nu_ u (upd (S_nu u) 7 v)) 6 = S_nu u 6 := show upd (S_nu u) 7 v 6 = S_nu u 6 from pk_un (by decide)
  have e7 : S_nu (S_nu_ u (upd (S_nu u) 7 v)) 7 = v := show upd (S_nu u) 7 v 7 = v from pk_us
  obtain ⟨h0, h1, h2, h3, h4, h5⟩ := h
  refine ⟨h0, ?_, h2, h3, h4, h5⟩
  rw [e0, e1, e2, e3, e4, e5, e6, e7]
  obtain ⟨a, b, c, d, e, f⟩ := h1
  obtain ⟨d1, d2, d3, d4⟩ := d
  simp at hv
  unfold rg at *
  refine ⟨?_, ?_, ?_, ?_, ?_, ?_⟩ <;> omega
theorem op_setNumber {fu : Nat} (hfu : 2000 ≤ fu) : OP_setNumber RR fu := by
  intro C m p v h
  obtain ⟨hT, hI, hH, hIm, hX⟩ := id h
  unfold f_X4_setNumber f_X5_setNumber
  simp only [e_within, bd_s, bf, Bool.not_eq_false, nm_d]
  by_cases hc : (0 : Int32).toInt ≤ p.toInt ∧ p.toInt ≤ (7 : Int32).toInt
  · rw [decide_eq_true hc, if_neg (by decide)]
    obtain ⟨h', q0, q1, q2, q3, q4, q5, pa', ps', s1, s2, hH'⟩ := r_save hfu hH hT hI
    rcases c07 hc with rfl | rfl | rfl | rfl | rfl | rfl | rfl | rfl
    · rw [e_least0, bd_s, e_great0, bd_s, e_isNumber0, bd_s]
      by_cases hv : ((1 : Int32)).toInt ≤ v.toInt ∧ v.toInt ≤ ((20 : Int32)).toInt
      · rw [decide_eq_true hv]; simp only [it_tt, it_ff, it_tf, it_ft, if_true, if_false]; rw [ix_v (by decide) (by decide), s1, bd_s, ix_v (by decide) (by decide), s2, bd_s, ix_v (by decide) (by decide), ix_v (by decide) (by decide)]
        exact ⟨_, _, rfl, rfl, hT.nu (k := 0) (by omega), TR_nu (i := 0) hT (by omega), TI_nu0 hI hv, hH', hIm, hX⟩
      · rw [decide_eq_false hv]; simp only [it_tt, it_ff, it_tf, it_ft, if_true, if_false]
        exact ⟨_, _, rfl, rfl, rfl, h.1, h.2.1, h.2.2.1, h.2.2.2.1, h.2.2.2.2⟩
    · rw [e_least1, bd_s, e_great1, bd_s, e_isNumber1, bd_s]
      by_cases hv : ((0 : Int32)).toInt ≤ v.toInt ∧ v.toInt ≤ ((99 : Int32)).toInt
      · rw [decide_eq_true hv]; simp only [it_tt, it_ff, it_tf, it_ft, if_true, if_false]; rw [ix_v (by decide) (by decide), s1, bd_s, ix_v (by decide) (by decide), s2, bd_s, ix_v (by decide) (by decide), ix_v (by decide) (by decide)]
        exact ⟨_, _, rfl, rfl, hT.nu (k := 1) (by omega), TR_nu (i := 1) hT (by omega), TI_nu1 hI hv, hH', hIm, hX⟩
      · rw [decide_eq_false hv]; simp only [it_tt, it_ff, it_tf, it_ft, if_true, if_false]
        exact ⟨_, _, rfl, rfl, rfl, h.1, h.2.1, h.2.2.1, h.2.2.2.1, h.2.2.2.2⟩
    · rw [e_least2, bd_s, e_great2, bd_s, e_isNumber2, bd_s]
      by_cases hv : ((1 : Int32)).toInt ≤ v.toInt ∧ v.toInt ≤ ((5 : Int32)).toInt
      · rw [decide_eq_true hv]; simp only [it_tt, it_ff, it_tf, it_ft, if_true, if_false]; rw [ix_v (by decide) (by decide), s1, bd_s, ix_v (by decide) (by decide), s2, bd_s, ix_v (by decide) (by decide), ix_v (by decide) (by decide)]
        exact ⟨_, _, rfl, rfl, hT.nu (k := 2) (by omega), TR_nu (i := 2) hT (by omega), TI_nu2 hI hv, hH', hIm, hX⟩
      · rw [decide_eq_false hv]; simp only [it_tt, it_ff, it_tf, it_ft, if_true, if_false]
        exact ⟨_, _, rfl, rfl, rfl, h.1, h.2.1, h.2.2.1, h.2.2.2.1, h.2.2.2.2⟩
    · rw [e_least3, bd_s, e_great3, bd_s, e_isNumber3, bd_s, show M_ss m 5 = S_nu (C_now C) 4 from (hT.nu (k := 4) (by omega)).symm]
      by_cases hv : ((1 : Int32)).toInt ≤ v.toInt ∧ v.toInt ≤ (S_nu (C_now C) 4 - 1).toInt
      · rw [decide_eq_true hv]; simp only [it_tt, it_ff, it_tf, it_ft, if_true, if_false]; rw [ix_v (by decide) (by decide), s1, bd_s, ix_v (by decide) (by decide), s2, bd_s, ix_v (by decide) (by decide), ix_v (by decide) (by decide)]
        exact ⟨_, _, rfl, rfl, hT.nu (k := 3) (by omega), TR_nu (i := 3) hT (by omega), TI_nu3 hI hv, hH', hIm, hX⟩
      · rw [decide_eq_false hv]; simp only [it_tt, it_ff, it_tf, it_ft, if_true, if_false]
        exact ⟨_, _, rfl, rfl, rfl, h.1, h.2.1, h.2.2.1, h.2.2.2.1, h.2.2.2.2⟩
    · rw [e_least4, bd_s, e_great4, bd_s, e_isNumber4, bd_s, show M_ss m 4 = S_nu (C_now C) 3 from (hT.nu (k := 3) (by omega)).symm, show M_ss m 6 = S_nu (C_now C) 5 from (hT.nu (k := 5) (by omega)).symm]
      by_cases hv : (S_nu (C_now C) 3 + 1).toInt ≤ v.toInt ∧ v.toInt ≤ (S_nu (C_now C) 5 - 1).toInt
      · rw [decide_eq_true hv]; simp only [it_tt, it_ff, it_tf, it_ft, if_true, if_false]; rw [ix_v (by decide) (by decide), s1, bd_s, ix_v (by decide) (by decide), s2, bd_s, ix_v (by decide) (by decide), ix_v (by decide) (by decide)]
        exact ⟨_, _, rfl, rfl, hT.nu (k := 4) (by omega), TR_nu (i := 4) hT (by omega), TI_nu4 hI hv, hH', hIm, hX⟩
      · rw [decide_eq_false hv]; simp only [it_tt, it_ff, it_tf, it_ft, if_true, if_false]
        exact ⟨_, _, rfl, rfl, rfl, h.1, h.2.1, h.2.2.1, h.2.2.2.1, h.2.2.2.2⟩
    · rw [e_least5, bd_s, e_great5, bd_s, e_isNumber5, bd_s, show M_ss m 5 = S_nu (C_now C) 4 from (hT.nu (k := 4) (by omega)).symm]
      by_cases hv : (S_nu (C_now C) 4 + 1).toInt ≤ v.toInt ∧ v.toInt ≤ ((2000 : Int32)).toInt
      · rw [decide_eq_true hv]; simp only [it_tt, it_ff, it_tf, it_ft, if_true, if_false]; rw [ix_v (by decide) (by decide), s1, bd_s, ix_v (by decide) (by decide), s2, bd_s, ix_v (by decide) (by decide), ix_v (by decide) (by decide)]
        exact ⟨_, _, rfl, rfl, hT.nu (k := 5) (by omega), TR_nu (i := 5) hT (by omega), TI_nu5 hI hv, hH', hIm, hX⟩
      · rw [decide_eq_false hv]; simp only [it_tt, it_ff, it_tf, it_ft, if_true, if_false]
        exact ⟨_, _, rfl, rfl, rfl, h.1, h.2.1, h.2.2.1, h.2.2.2.1, h.2.2.2.2⟩
    · rw [e_least6, bd_s, e_great6, bd_s, e_isNumber6, bd_s]
      by_cases hv : ((10 : Int32)).toInt ≤ v.toInt ∧ v.toInt ≤ ((500 : Int32)).toInt
      · rw [decide_eq_true hv]; simp only [it_tt, it_ff, it_tf, it_ft, if_true, if_false]; rw [ix_v (by decide) (by decide), s1, bd_s, ix_v (by decide) (by decide), s2, bd_s, ix_v (by decide) (by decide), ix_v (by decide) (by decide)]
        exact ⟨_, _, rfl, rfl, hT.nu (k := 6) (by omega), TR_nu (i := 6) hT (by omega), TI_nu6 hI hv, hH', hIm, hX⟩
      · rw [decide_eq_false hv]; simp only [it_tt, it_ff, it_tf, it_ft, if_true, if_false]
        exact ⟨_, _, rfl, rfl, rfl, h.1, h.2.1, h.2.2.1, h.2.2.2.1, h.2.2.2.2⟩
    · rw [e_least7, bd_s, e_great7, bd_s, e_isNumber7, bd_s]
      by_cases hv : ((1 : Int32)).toInt ≤ v.toInt ∧ v.toInt ≤ ((50 : Int32)).toInt
      · rw [decide_eq_true hv]; simp only [it_tt, it_ff, it_tf, it_ft, if_true, if_false]; rw [ix_v (by decide) (by decide), s1, bd_s, ix_v (by decide) (by decide), s2, bd_s, ix_v (by decide) (by decide), ix_v (by decide) (by decide)]
        exact ⟨_, _, rfl, rfl, hT.nu (k := 7) (by omega), TR_nu (i := 7) hT (by omega), TI_nu7 hI hv, hH', hIm, hX⟩
      · rw [decide_eq_false hv]; simp only [it_tt, it_ff, it_tf, it_ft, if_true, if_false]
        exact ⟨_, _, rfl, rfl, rfl, h.1, h.2.1, h.2.2.1, h.2.2.2.1, h.2.2.2.2⟩
  · rw [decide_eq_false hc, if_pos (by decide), e_isNumberN fu m p v hc, bd_s, if_neg (by decide)]
    exact ⟨_, _, rfl, rfl, rfl, h.1, h.2.1, h.2.2.1, h.2.2.2.1, h.2.2.2.2⟩
