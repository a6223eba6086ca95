theorem fl_s0 (f g : Nat → Int32) (k : Nat) : upd (fl f g 0 k) k (f k) = fl f g 0 (k + 1) := by
  have e := fl_s f g 0 k
  rw [Nat.zero_add] at e
  exact e
theorem n_m1 {j : Nat} (h : 1 ≤ j) : nI j - (1 : Int32) = nI (j - 1) := pk_sub (b := 1) h
theorem e_restore {fu : Nat} {hi : TH} {r0 r1 r2 r3 r4 r5 now : TS} {a z : Nat} (ha : H_ol hi = nI a) (ha6 : a < 6) (hz : H_sz hi = nI z) (hz6 : z ≤ 6) (hz1 : 1 ≤ z) :
    f_X0_restore fu hi r0 r1 r2 r3 r4 r5 now = some (H_sz_ hi (nI (z - 1)), cpT now (RW r0 r1 r2 r3 r4 r5 ((a + (z - 1)) % 6))) := by
  have hq : (a + (z - 1)) % 6 < 6 := Nat.mod_lt _ (by omega)
  unfold f_X0_restore
  simp only [nm_d, e_copyFrom, bd_s]
  rw [hz, if_neg (show ¬ nI z ≤ 0 from n_nle (b := 0) (by omega) (by omega) (by omega)), n_m1 hz1]
  rw [show H_ol (H_sz_ hi (nI (z - 1))) = nI a from ha, show H_sz (H_sz_ hi (nI (z - 1))) = nI (z - 1) from rfl, n_a, rem6 (by omega), ix_n hq (by omega)]
  generalize (a + (z - 1)) % 6 = q at hq ⊢
  match q, hq with
  | 0, _ => rw [if_pos (by decide)]; rfl
  | 1, _ => rw [if_neg (by decide), if_pos (by decide)]; rfl
  | 2, _ => rw [if_neg (by decide), if_neg (by decide), if_pos (by decide)]; rfl
  | 3, _ => rw [if_neg (by decide), if_neg (by decide), if_neg (by decide), if_pos (by decide)]; rfl
  | 4, _ => rw [if_neg (by decide), if_neg (by decide), if_neg (by decide), if_neg (by decide), if_pos (by decide)]; rfl
  | 5, _ => rw [if_neg (by decide), if_neg (by decide), if_neg (by decide), if_neg (by decide), if_neg (by decide), if_pos (by decide)]; rfl
theorem c01 {p : Int32} (h : (0 : Int32).toInt ≤ p.toInt ∧ p.toInt ≤ (1 : Int32).toInt) : p = 0 ∨ p = 1 := by
  obtain ⟨h1, h2⟩ := h
  simp at h1 h2
  rw [i_eq, i_eq]
  simp
  omega
theorem e_least0 (fu : Nat) (u : TS) : f_X4_leastNumber fu u (0 : Int32) = some ((1 : Int32)) := by
  unfold f_X4_leastNumber
  simp only [nm_d, jn_e]
  rw [if_neg (by decide), if_pos (by decide), ix_v (by decide) (by decide)]
  rfl
theorem e_great0 (fu : Nat) (u : TS) : f_X4_greatestNumber fu u (0 : Int32) = some ((20 : Int32)) := by
  unfold f_X4_greatestNumber
  simp only [nm_d, jn_e]
  rw [if_neg (by decide), if_pos (by decide), ix_v (by decide) (by decide)]
  rfl
theorem e_least1 (fu : Nat) (u : TS) : f_X4_leastNumber fu u (1 : Int32) = some ((0 : Int32)) := by
  unfold f_X4_leastNumber
  simp only [nm_d, jn_e]
  rw [if_neg (by decide), if_pos (by decide), ix_v (by decide) (by decide)]
  rfl
theorem e_great1 (fu : Nat) (u : TS) : f_X4_greatestNumber fu u (1 : Int32) = some ((99 : Int32)) := by
  unfold f_X4_greatestNumber
  simp only [nm_d, jn_e]
  rw [if_neg (by decide), if_pos (by decide), ix_v (by decide) (by decide)]
  rfl
theorem e_least2 (fu : Nat) (u : TS) : f_X4_leastNumber fu u (2 : Int32) = some ((1 : Int32)) := by
  unfold f_X4_leastNumber
  simp only [nm_d, jn_e]
  rw [if_neg (by decide), if_pos (by decide), ix_v (by decide) (by decide)]
  rfl
theorem e_great2 (fu : Nat) (u : TS) : f_X4_greatestNumber fu u (2 : Int32) = some ((5 : Int32)) := by
  unfold f_X4_greatestNumber
  simp only [nm_d, jn_e]
  rw [if_neg (by decide), if_pos (by decide), ix_v (by decide) (by decide)]
  rfl
theorem e_least3 (fu : Nat) (u : TS) : f_X4_leastNumber fu u (3 : Int32) = some ((1 : Int32)) := by
  unfold f_X4_leastNumber
  simp only [nm_d, jn_e]
  rw [if_neg (by decide), if_pos (by decide), ix_v (by decide) (by decide)]
  rfl
theorem e_great3 (fu : Nat) (u : TS) : f_X4_greatestNumber fu u (3 : Int32) = some (S_nu u 4 - 1) := by
  unfold f_X4_greatestNumber
  simp only [nm_d, jn_e]
  rw [if_pos (by decide), ix_v (by decide) (by decide)]
  rfl
theorem e_least4 (fu : Nat) (u : TS) : f_X4_leastNumber fu u (4 : Int32) = some (S_nu u 3 + 1) := by
  unfold f_X4_leastNumber
  simp only [nm_d, jn_e]
  rw [if_pos (by decide), ix_v (by decide) (by decide)]
  rfl
theorem e_great4 (fu : Nat) (u : TS) : f_X4_greatestNumber fu u (4 : Int32) = some (S_nu u 5 - 1) := by
  unfold f_X4_greatestNumber
  simp only [nm_d, jn_e]
  rw [if_neg (by decide), if_neg (by decide), ix_v (by decide) (by decide)]
  rfl
theorem e_least5 (fu : Nat) (u : TS) : f_X4_leastNumber fu u (5 : Int32) = some (S_nu u 4 + 1) := by
  unfold f_X4_leastNumber
  simp only [nm_d, jn_e]
  rw [if_neg (by decide), if_neg (by decide), ix_v (by decide) (by decide)]
  rfl
theorem e_great5 (fu : Nat) (u : TS) : f_X4_greatestNumber fu u (5 : Int32) = some ((2000 : Int32)) := by
  unfold f_X4_greatestNumber
  simp only [nm_d, jn_e]
  rw [if_neg (by decide), if_pos (by decide), ix_v (by decide) (by decide)]
  rfl
theorem e_least6 (fu : Nat) (u : TS) : f_X4_leastNumber fu u (6 : Int32) = some ((10 : Int32)) := by
  unfold f_X4_leastNumber
  simp only [nm_d, jn_e]
  rw [if_neg (by decide), if_pos (by decide), ix_v (by decide) (by decide)]
  rfl
theorem e_great6 (fu : Nat) (u : TS) : f_X4_greatestNumber fu u (6 : Int32) = some ((500 : Int32)) := by
  unfold f_X4_greatestNumber
  simp only [nm_d, jn_e]
  rw [if_neg (by decide), if_pos (by decide), ix_v (by decide) (by decide)]
  rfl
theorem e_least7 (fu : Nat) (u : TS) : f_X4_leastNumber fu u (7 : Int32) = some ((1 : Int32)) := by
  unfold f_X4_leastNumber
  simp only [nm_d, jn_e]
  rw [if_neg (by decide), if_pos (by decide), ix_v (by decide) (by decide)]
  rfl
theorem e_great7 (fu : Nat) (u : TS) : f_X4_greatestNumber fu u (7 : Int32) = some ((50 : Int32)) := by
  unfold f_X4_greatestNumber
  simp only [nm_d, jn_e]
  rw [if_neg (by decide), if_pos (by decide), ix_v (by decide) (by decide)]
  rfl
theorem c07 {p : Int32} (h : (0 : Int32).toInt ≤ p.toInt ∧ p.toInt ≤ (7 : Int32).toInt) : p = 0 ∨ p = 1 ∨ p = 2 ∨ p = 3 ∨ p = 4 ∨ p = 5 ∨ p = 6 ∨ p = 7 := by
  obtain ⟨h1, h2⟩ := h
  simp at h1 h2
  simp only [i_eq]
  simp
  omega
theorem TI_nu0 {u : TS} {v : Int32} (h : TI u) (hv : ((1 : Int32)).toInt ≤ v.toInt ∧ v.toInt ≤ ((20 : Int32)).toInt) : TI (S_nu_ u (upd (S_nu u) 0 v)) := by
  have e0 : S_nu (S_nu_ u (upd (S_nu u) 0 v)) 0 = v := show upd (S_nu u) 0 v 0 = v from pk_us
  have e1 : S_nu (S_nu_ u (upd (S_nu u) 0 v)) 1 = S_nu u 1 := show upd (S_nu u) 0 v 1 = S_nu u 1 from pk_un (by decide)
  have e2 : S_nu (S_nu_ u (upd (S_nu u) 0 v)) 2 = S_nu u 2 := show upd (S_nu u) 0 v 2 = S_nu u 2 from pk_un (by decide)
  have e3 : S_nu (S_nu_ u (upd (S_nu u) 0 v)) 3 = S_nu u 3 := show upd (S_nu u) 0 v 3 = S_nu u 3 from pk_un (by decide)
  have e4 : S_nu (S_nu_ u (upd (S_nu u) 0 v)) 4 = S_nu u 4 := show upd (S_nu u) 0 v 4 = S_nu u 4 from pk_un (by decide)
  have e5 : S_nu (S_nu_ u (upd (S_nu u) 0 v)) 5 = S_nu u 5 := show upd (S_nu u) 0 v 5 = S_nu u 5 from pk_un (by decide)
  have e6 : S_nu (S_nu_ u (upd (S_nu u) 0 v)) 6 = S_nu u 6 := show upd (S_nu u) 0 v 6 = S_nu u 6 from pk_un (by decide)
  have e7 : S_nu (S_nu_ u (upd (S_nu u) 0 v)) 7 = S_nu u 7 := show upd (S_nu u) 0 v 7 = S_nu u 7 from pk_un (by decide)
  obtain ⟨h0, h1, h2, h3, h4, h5⟩ := h
  refine ⟨h0, ?_, h2, h3, h4, h5⟩
  rw [e0, e1, e2, e3, e4, e5, e6, e7]
  obtain ⟨a, b, c, d, e, f⟩ := h1
  obtain ⟨d1, d2, d3, d4⟩ := d
  simp at hv
  unfold rg at *
  refine ⟨?_, ?_, ?_, ?_, ?_, ?_⟩ <;> omega
theorem TI_nu1 {u : TS} {v : Int32} (h : TI u) (hv : ((0 : Int32)).toInt ≤ v.toInt ∧ v.toInt ≤ ((99 : Int32)).toInt) : TI (S_nu_ u (upd (S_nu u) 1 v)) := by
  have e0 : S_nu (S_nu_ u (upd (S_nu u) 1 v)) 0 = S_nu u 0 := show upd (S_nu u) 1 v 0 = S_nu u 0 from pk_un (by decide)
  have e1 : S_nu (S_nu_ u (upd (S_nu u) 1 v)) 1 = v := show upd (S_nu u) 1 v 1 = v from pk_us
  have e2 : S_nu (S_nu_ u (upd (S_nu u) 1 v)) 2 = S_nu u 2 := show upd (S_nu u) 1 v 2 = S_nu u 2 from pk_un (by decide)
  have e3 : S_nu (S_nu_ u (upd (S_nu u) 1 v)) 3 = S_nu u 3 := show upd (S_nu u) 1 v 3 = S_nu u 3 from pk_un (by decide)
  have e4 : S_nu (S_nu_ u (upd (S_nu u) 1 v)) 4 = S_nu u 4 := show upd (S_nu u) 1 v 4 = S_nu u 4 from pk_un (by decide)
  have e5 : S_nu (S_nu_ u (upd (S_nu u) 1 v)) 5 = S_nu u 5 := show upd (S_nu u) 1 v 5 = S_nu u 5 from pk_un (by decide)
  have e6 : S_nu (S_nu_ u (upd (S_nu u) 1 v)) 6 = S_nu u 6 := show upd (S_nu u) 1 v 6 = S_nu u 6 from pk_un (by decide)
  have e7 : S_nu (S_nu_ u (upd (S_nu u) 1 v)) 7 = S_nu u 7 := show upd (S_nu u) 1 v 7 = S_nu u 7 from pk_un (by decide)
  obtain ⟨h0, h1, h2, h3, h4, h5⟩ := h
  refine ⟨h0, ?_, h2, h3, h4, h5⟩
  rw [e0, e1, e2, e3, e4, e5, e6, e7]
  obtain ⟨a, b, c, d, e, f⟩ := h1
  obtain ⟨d1, d2, d3, d4⟩ := d
  simp at hv
  unfold rg at *
  refine ⟨?_, ?_, ?_, ?_, ?_, ?_⟩ <;> omega
theorem TI_nu2 {u : TS} {v : Int32} (h : TI u) (hv : ((1 : Int32)).toInt ≤ v.toInt ∧ v.toInt ≤ ((5 : Int32)).toInt) : TI (S_nu_ u (upd (S_nu u) 2 v)) := by
  have e0 : S_nu (S_nu_ u (upd (S_nu u) 2 v)) 0 = S_nu u 0 := show upd (S_nu u) 2 v 0 = S_nu u 0 from pk_un (by decide)
  have e1 : S_nu (S_nu_ u (upd (S_nu u) 2 v)) 1 = S_nu u 1 := show upd (S_nu u) 2 v 1 = S_nu u 1 from pk_un (by decide)
  have e2 : S_nu (S_nu_ u (upd (S_nu u) 2 v)) 2 = v := show upd (S_nu u) 2 v 2 = v from pk_us
  have e3 : S_nu (S_nu_ u (upd (S_nu u) 2 v)) 3 = S_nu u 3 := show upd (S_nu u) 2 v 3 = S_nu u 3 from pk_un (by decide)
  have e4 : S_nu (S_nu_ u (upd (S_nu u) 2 v)) 4 = S_nu u 4 := show upd (S_nu u) 2 v 4 = S_nu u 4 from pk_un (by decide)
  have e5 : S_nu (S_nu_ u (upd (S_nu u) 2 v)) 5 = S_nu u 5 := show upd (S_nu u) 2 v 5 = S_nu u 5 from pk_un (by decide)
  have e6 : S_nu (S_nu_ u (upd (S_nu u) 2 v)) 6 = S_nu u 6 := show upd (S_nu u) 2 v 6 = S_nu u 6 from pk_un (by decide)
  have e7 : S_nu (S_nu_ u (upd (S_nu u) 2 v)) 7 = S_nu u 7 := show upd (S_nu u) 2 v 7 = S_nu u 7 from pk_un (by decide)
  obtain ⟨h0, h1, h2, h3, h4, h5⟩ := h
  refine ⟨h0, ?_, h2, h3, h4, h5⟩
  rw [e0, e1, e2, e3, e4, e5, e6, e7]
  obtain ⟨a, b, c, d, e, f⟩ := h1
  obtain ⟨d1, d2, d3, d4⟩ := d
  simp at hv
  unfold rg at *
  refine ⟨?_, ?_, ?_, ?_, ?_, ?_⟩ <;> omega
theorem TI_nu3 {u : TS} {v : Int32} (h : TI u) (hv : ((1 : Int32)).toInt ≤ v.toInt ∧ v.toInt ≤ (S_nu u 4 - 1).toInt) : TI (S_nu_ u (upd (S_nu u) 3 v)) := by
  have e0 : S_nu (S_nu_ u (upd (S_nu u) 3 v)) 0 = S_nu u 0 := show upd (S_nu u) 3 v 0 = S_nu u 0 from pk_un (by decide)
  have e1 : S_nu (S_nu_ u (upd (S_nu u) 3 v)) 1 = S_nu u 1 := show upd (S_nu u) 3 v 1 = S_nu u 1 from pk_un (by decide)
  have e2 : S_nu (S_nu_ u (upd (S_nu u) 3 v)) 2 = S_nu u 2 := show upd (S_nu u) 3 v 2 = S_nu u 2 from pk_un (by decide)
  have e3 : S_nu (S_nu_ u (upd (S_nu u) 3 v)) 3 = v := show upd (S_nu u) 3 v 3 = v from pk_us
  have e4 : S_nu (S_nu_ u (upd (S_nu u) 3 v)) 4 = S_nu u 4 := show upd (S_nu u) 3 v 4 = S_nu u 4 from pk_un (by decide)
  have e5 : S_nu (S_nu_ u (upd (S_nu u) 3 v)) 5 = S_nu u 5 := show upd (S_nu u) 3 v 5 = S_nu u 5 from pk_un (by decide)
  have e6 : S_nu (S_nu_ u (upd (S_nu u) 3 v)) 6 = S_nu u 6 := show upd (S_nu u) 3 v 6 = S_nu u 6 from pk_un (by decide)
  have e7 : S_nu (S_nu_ u (upd (S_nu u) 3 v)) 7 = S_nu u 7 := show upd (S_nu u) 3 v 7 = S_nu u 7 from pk_un (by decide)
  obtain ⟨h0, h1, h2, h3, h4, h5⟩ := h
  refine ⟨h0, ?_, h2, h3, h4, h5⟩
  rw [e0, e1, e2, e3, e4, e5, e6, e7]
  obtain ⟨a, b, c, d, e, f⟩ := h1
  obtain ⟨d1, d2, d3, d4⟩ := d
  rw [i_sub (by simp; omega) (by simp; omega)] at hv
  simp at hv
  unfold rg at *
  refine ⟨?_, ?_, ?_, ?_, ?_, ?_⟩ <;> omega
theorem TI_nu4 {u : TS} {v : Int32} (h : TI u) (hv : (S_nu u 3 + 1).toInt ≤ v.toInt ∧ v.toInt ≤ (S_nu u 5 - 1).toInt) : TI (S_nu_ u (upd (S_nu u) 4 v)) := by
  have e0 : S_nu (S_nu_ u (upd (S_nu u) 4 v)) 0 = S_nu u 0 := show upd (S_nu u) 4 v 0 = S_nu u 0 from pk_un (by decide)
  have e1 : S_nu (S_nu_ u (upd (S_nu u) 4 v)) 1 = S_nu u 1 := show upd (S_nu u) 4 v 1 = S_nu u 1 from pk_un (by decide)
  have e2 : S_nu (S_nu_ u (upd (S_nu u) 4 v)) 2 = S_nu u 2 := show upd (S_nu u) 4 v 2 = S_nu u 2 from pk_un (by decide)
  have e3 : S_nu (S_nu_ u (upd (S_nu u) 4 v)) 3 = S_nu u 3 := show upd (S_nu u) 4 v 3 = S_nu u 3 from pk_un (by decide)
  have e4 : S_nu (S_nu_ u (upd (S_nu u) 4 v)) 4 = v := show upd (S_nu u) 4 v 4 = v from pk_us
  have e5 : S_nu (S_nu_ u (upd (S_nu u) 4 v)) 5 = S_nu u 5 := show upd (S_nu u) 4 v 5 = S_nu u 5 from pk_un (by decide)
  have e6 : S_nu (S_nu_ u (upd (S_nu u) 4 v)) 6 = S_nu u 6 := show upd (S_nu u) 4 v 6 = S_nu u 6 from pk_un (by decide)
  have e7 : S_nu (S_nu_ u (upd (S_nu u) 4 v)) 7 = S_nu u 7 := show upd (S_nu u) 4 v 7 = S_nu u 7 from pk_un (by decide)
  obtain ⟨h0, h1, h2, h3, h4, h5⟩ := h
  refine ⟨h0, ?_, h2, h3, h4, h5⟩
  rw [e0, e1, e2, e3, e4, e5, e6, e7]
  obtain ⟨a, b, c, d, e, f⟩ := h1
  obtain ⟨d1, d2, d3, d4⟩ := d
  rw [i_sub (by simp; omega) (by simp; omega), i_add (by simp; omega) (by simp; omega)] at hv
  simp at hv
  unfold rg at *
  refine ⟨?_, ?_, ?_, ?_, ?_, ?_⟩ <;> omega
theorem TI_nu5 {u : TS} {v : Int32} (h : TI u) (hv : (S_nu u 4 + 1).toInt ≤ v.toInt ∧ v.toInt ≤ ((2000 : Int32)).toInt) : TI (S_nu_ u (upd (S_nu u) 5 v)) := by
  have e0 : S_nu (S_nu_ u (upd (S_nu u) 5 v)) 0 = S_nu u 0 := show upd (S_nu u) 5 v 0 = S_nu u 0 from pk_un (by decide)
  have e1 : S_nu (S_nu_ u (upd (S_nu u) 5 v)) 1 = S_nu u 1 := show upd (S_nu u) 5 v 1 = S_nu u 1 from pk_un (by decide)
  have e2 : S_nu (S_nu_ u (upd (S_nu u) 5 v)) 2 = S_nu u 2 := show upd (S_nu u) 5 v 2 = S_nu u 2 from pk_un (by decide)
  have e3 : S_nu (S_nu_ u (upd (S_nu u) 5 v)) 3 = S_nu u 3 := show upd (S_nu u) 5 v 3 = S_nu u 3 from pk_un (by decide)
  have e4 : S_nu (S_nu_ u (upd (S_nu u) 5 v)) 4 = S_nu u 4 := show upd (S_nu u) 5 v 4 = S_nu u 4 from pk_un (by decide)
  have e5 : S_nu (S_nu_ u (upd (S_nu u) 5 v)) 5 = v := show upd (S_nu u) 5 v 5 = v from pk_us
  have e6 : S_nu (S_nu_ u (upd (S_nu u) 5 v)) 6 = S_nu u 6 := show upd (S_nu u) 5 v 6 = S_nu u 6 from pk_un (by decide)
  have e7 : S_nu (S_nu_ u (upd (S_nu u) 5 v)) 7 = S_nu u 7 := show upd (S_nu u) 5 v 7 = S_nu u 7 from pk_un (by decide)
  obtain ⟨h0, h1, h2, h3, h4, h5⟩ := h
  refine ⟨h0, ?_, h2, h3, h4, h5⟩
  rw [e0, e1, e2, e3, e4, e5, e6, e7]
  obtain ⟨a, b, c, d, e, f⟩ := h1
  obtain ⟨d1, d2, d3, d4⟩ := d
  rw [i_add (by simp; omega) (by simp; omega)] at hv
  simp at hv
  unfold rg at *
  refine ⟨?_, ?_, ?_, ?_, ?_, ?_⟩ <;> omega
theorem TI_nu6 {u : TS} {v : Int32} (h : TI u) (hv : ((10 : Int32)).toInt ≤ v.toInt ∧ v.toInt ≤ ((500 : Int32)).toInt) : TI (S_nu_ u (upd (S_nu u) 6 v)) := by
  have e0 : S_nu (S_nu_ u (upd (S_nu u) 6 v)) 0 = S_nu u 0 := show upd (S_nu u) 6 v 0 = S_nu u 0 from pk_un (by decide)
  have e1 : S_nu (S_nu_ u (upd (S_nu u) 6 v)) 1 = S_nu u 1 := show upd (S_nu u) 6 v 1 = S_nu u 1 from pk_un (by decide)
  have e2 : S_nu (S_nu_ u (upd (S_nu u) 6 v)) 2 = S_nu u 2 := show upd (S_nu u) 6 v 2 = S_nu u 2 from pk_un (by decide)
  have e3 : S_nu (S_nu_ u (upd (S_nu u) 6 v)) 3 = S_nu u 3 := show upd (S_nu u) 6 v 3 = S_nu u 3 from pk_un (by decide)
  have e4 : S_nu (S_nu_ u (upd (S_nu u) 6 v)) 4 = S_nu u 4 := show upd (S_nu u) 6 v 4 = S_nu u 4 from pk_un (by decide)
  have e5 : S_nu (S_nu_ u (upd (S_nu u) 6 v)) 5 = S_nu u 5 := show upd (S_nu u) 6 v 5 = S_nu u 5 from pk_un (by decide)
  have e6 : S_nu (S_nu_ u (upd (S_nu u) 6 v)) 6 = v := show upd (S_nu u) 6 v 6 = v from pk_us
  have e7 : S_nu (S_nu_ u (upd (S_nu u) 6 v)) 7 = S_nu u 7 := show upd (S_nu u) 6 v 7 = S_nu u 7 from pk_un (by decide)
  obtain ⟨h0, h1, h2, h3, h4, h5⟩ := h
  refine ⟨h0, ?_, h2, h3, h4, h5⟩
  rw [e0, e1, e2, e3, e4, e5, e6, e7]
  obtain ⟨a, b, c, d, e, f⟩ := h1
  obtain ⟨d1, d2, d3, d4⟩ := d
  simp at hv
  unfold rg at *
  refine ⟨?_, ?_, ?_, ?_, ?_, ?_⟩ <;> omega
theorem TI_nu7 {u : TS} {v : Int32} (h : TI u) (hv : ((1 : Int32)).toInt ≤ v.toInt ∧ v.toInt ≤ ((50 : Int32)).toInt) : TI (S_nu_ u (upd (S_nu u) 7 v)) := by
  have e0 : S_nu (S_nu_ u (upd (S_nu u) 7 v)) 0 = S_nu u 0 := show upd (S_nu u) 7 v 0 = S_nu u 0 from pk_un (by decide)
  have e1 : S_nu (S_nu_ u (upd (S_nu u) 7 v)) 1 = S_nu u 1 := show upd (S_nu u) 7 v 1 = S_nu u 1 from pk_un (by decide)
  have e2 : S_nu (S_nu_ u (upd (S_nu u) 7 v)) 2 = S_nu u 2 := show upd (S_nu u) 7 v 2 = S_nu u 2 from pk_un (by decide)
  have e3 : S_nu (S_nu_ u (upd (S_nu u) 7 v)) 3 = S_nu u 3 := show upd (S_nu u) 7 v 3 = S_nu u 3 from pk_un (by decide)
  have e4 : S_nu (S_nu_ u (upd (S_nu u) 7 v)) 4 = S_nu u 4 := show upd (S_nu u) 7 v 4 = S_nu u 4 from pk_un (by decide)
  have e5 : S_nu (S_nu_ u (upd (S_nu u) 7 v)) 5 = S_nu u 5 := show upd (S_nu u) 7 v 5 = S_nu u 5 from pk_un (by decide)
  have e6 : S_nu (S_nu_ u (upd (S_nu u) 7 v)) 6 = S_nu u 6 := show upd (S_nu u) 7 v 6 = S_nu u 6 from pk_un (by decide)
  have e7 : S_nu (S_nu_ u (upd (S_nu u) 7 v)) 7 = v := show upd (S_nu u) 7 v 7 = v from pk_us
  obtain ⟨h0, h1, h2, h3, h4, h5⟩ := h
  refine ⟨h0, ?_, h2, h3, h4, h5⟩
  rw [e0, e1, e2, e3, e4, e5, e6, e7]
  obtain ⟨a, b, c, d, e, f⟩ := h1
  obtain ⟨d1, d2, d3, d4⟩ := d
  simp at hv
  unfold rg at *
  refine ⟨?_, ?_, ?_, ?_, ?_, ?_⟩ <;> omega
theorem e_stretch (fu : Nat) (u : TS) (a b : Int32) : f_X4_isStretch fu u a b = some (hs (S_sl u) a && decide (a.toInt ≤ b.toInt ∧ b.toInt ≤ (S_sl u - 1).toInt)) := by
  unfold f_X4_isStretch
  simp only [e_has, bd_s, jn_e, bf]
  cases h1 : hs (S_sl u) a with
  | false => rw [if_pos rfl]; rfl
  | true =>
    rw [if_neg (by decide)]
    unfold hs at h1
    rw [decide_eq_true_eq] at h1
    cases h2 : hs (S_sl u) b with
    | false =>
      rw [if_pos rfl]
      unfold hs at h2
      rw [decide_eq_false_iff_not] at h2
      rw [decide_eq_false (by omega)]
      rfl
    | true =>
      unfold hs at h2
      rw [decide_eq_true_eq] at h2
      rw [if_neg (by decide)]
      by_cases h3 : b < a
      · rw [if_pos h3, decide_eq_false (by rw [i_lt] at h3; omega)]
        rfl
      · rw [if_neg h3, decide_eq_true (by rw [i_lt] at h3; omega)]
        rfl
/-- a stretch of sleepers -/
theorem str_t {N : Nat} {a b : Int32} (h : hs (nI N) a = true) (h1 : 1 ≤ N) (h2 : N ≤ 1000) (hb : a.toInt ≤ b.toInt ∧ b.toInt ≤ (nI N - 1).toInt) : ∃ i j : Nat, a = nI i ∧ b = nI j ∧ i ≤ j ∧ j < N := by
  obtain ⟨i, rfl, hi⟩ := hs_t h h1 h2
  rw [n_ti (by omega), n_m1 h1, n_ti (by omega)] at hb
  obtain ⟨j, e, e2, -⟩ := i_of (x := b) (by omega)
  exact ⟨i, j, rfl, e, by omega, by omega⟩
def sgm (f : Nat → Int32) (i : Nat) : Nat → Int32
  | 0 => 0
  | k + 1 => sgm f i k + f (i + k)
theorem sgm_cong {f g : Nat → Int32} {i i' : Nat} (d : Nat) (h : ∀ k, k < d → f (i + k) = g (i' + k)) : sgm f i d = sgm g i' d := by
  induction d with
  | zero => rfl
  | succ d ih =>
    show sgm f i d + f (i + d) = sgm g i' d + g (i' + d)
    rw [ih (fun k hk => h k (by omega)), h d (by omega)]
theorem TR_fo2 {u : TS} {s : Nat → Int32} {i : Nat} (h : TR u s) (d : Nat) (hd : i + d ≤ 60) : TR (S_fo_ u (fl (fun _ => 0) (S_fo u) i d)) (fl (fun _ => 0) s (101 + i) d) := by
  induction d with
  | zero =>
    rw [fl_0, fl_0]
    exact h
  | succ d ih =>
    have h1 := TR_fo (i := i + d) (x := 0) (ih (by omega)) (by omega)
    rw [← Nat.add_assoc] at h1
    rw [← fl_s (fun _ => 0) (S_fo u) i d, ← fl_s (fun _ => 0) s (101 + i) d]
    exact h1
theorem TI_fo2 {u : TS} {i d : Nat} (h : TI u) : TI (S_fo_ u (fl (fun _ => 0) (S_fo u) i d)) := by
  obtain ⟨h0, h1, h2, h3, h4, h5⟩ := h
  refine ⟨h0, h1, h2, fun k hk => ?_, h4, h5⟩
  show rg (fl (fun _ => 0) (S_fo u) i d k) 0 100
  unfold fl
  by_cases e : i ≤ k ∧ k < i + d
  · rw [if_pos e]
    simp [rg]
  · rw [if_neg e]
    exact h3 k hk
def lft (u : TS) (i : Nat) (t : Int32) : Int32 := if S_nu u 6 < t - S_lv u i then S_nu u 6 else t - S_lv u i
theorem e_liftOf {fu : Nat} {u : TS} {i : Nat} {t : Int32} (hi : i < 60) : f_X1_liftOf fu u (nI i) t = some (if S_nu u 7 ≤ lft u i t then lft u i t else 0) := by
  unfold f_X1_liftOf
  simp only [nm_d]
  rw [ix_n hi (by omega), n_cl (by omega)]
  show (if S_nu u 7 ≤ lft u i t then some (lft u i t) else some 0) = _
  by_cases h : S_nu u 7 ≤ lft u i t
  · rw [if_pos h, if_pos h]
  · rw [if_neg h, if_neg h]
/-- one job more -/
def jr4 (f : Nat → Int32) (d : Nat) (a b t : Int32) : Nat → Int32 := upd (upd (upd (upd f d a) (d + 1) b) (d + 2) t) (d + 3) a
theorem jr4_0 {f : Nat → Int32} {d : Nat} {a b t : Int32} : jr4 f d a b t d = a ∧ jr4 f d a b t (d + 1) = b ∧ jr4 f d a b t (d + 2) = t ∧ jr4 f d a b t (d + 3) = a := by
  unfold jr4
  refine ⟨?_, ?_, ?_, ?_⟩
  · rw [pk_un (by omega), pk_un (by omega), pk_un (by omega), pk_us]
  · rw [pk_un (by omega), pk_un (by omega), pk_us]
  · rw [pk_un (by omega), pk_us]
  · rw [pk_us]
theorem jr4_n {f : Nat → Int32} {d k : Nat} {a b t : Int32} (h : k < d ∨ d + 4 ≤ k) : jr4 f d a b t k = f k := by
  unfold jr4
  rw [pk_un (by omega), pk_un (by omega), pk_un (by omega), pk_un (by omega)]
theorem e_appendJob {fu : Nat} {u : TS} {J : Nat} {a b t : Int32} (hJ : S_jb u = nI J) (hJ6 : J < 6) : f_X1_appendJob fu u a b t = some (S_jb_ (S_jr_ u (jr4 (S_jr u) (4 * J) a b t)) (nI (J + 1))) := by
  unfold f_X1_appendJob
  simp only [nm_d]
  rw [hJ, n_4m, n_p0, n_p1, n_p2, n_p3, ix_n (by omega) (by omega), ix_n (by omega) (by omega), ix_n (by omega) (by omega), ix_n (by omega) (by omega), n_cl (by omega), n_cl (by omega), n_cl (by omega), n_cl (by omega)]
  show some (S_jb_ (S_jr_ u (jr4 (S_jr u) (4 * J) a b t)) (S_jb u + 1)) = _
  rw [hJ, n_p1]
