/-! the rail -/
def dst (i j : Nat) : Int := if j ≤ i then (i : Int) - j else (j : Int) - i
def lvI (u : TS) (j : Nat) : Int := (S_lv u j).toInt
/-- r is the rail's level at i: the greatest of all -/
def isR (u : TS) (N K i : Nat) (r : Int) : Prop := (∀ j, j < N → lvI u j - K * dst i j ≤ r) ∧ ∃ j, j < N ∧ r = lvI u j - K * dst i j
theorem isR_uniq {u : TS} {N K i : Nat} {r r' : Int} (h : isR u N K i r) (h' : isR u N K i r') : r = r' := by
  obtain ⟨j, hj, e⟩ := h.2
  obtain ⟨k, hk, f⟩ := h'.2
  have h1 := h.1 k hk
  have h2 := h'.1 j hj
  omega
theorem isR_rg {u : TS} {N K i : Nat} {r : Int} (hI : TI u) (hN : N ≤ 60) (hi : i < N) (h : isR u N K i r) : -9999 ≤ r ∧ r ≤ 9999 := by
  obtain ⟨j, hj, e⟩ := h.2
  have h1 := h.1 i hi
  have e0 : dst i i = 0 := by unfold dst; rw [if_pos (Nat.le_refl i)]; omega
  rw [e0, Int.mul_zero] at h1
  obtain ⟨l1, l2⟩ := hI.lv (k := i) (by omega)
  obtain ⟨k1, k2⟩ := hI.lv (k := j) (by omega)
  have hd : 0 ≤ dst i j := by unfold dst; split <;> omega
  have hp : 0 ≤ (K : Int) * dst i j := Int.mul_nonneg (by omega) hd
  unfold lvI at *
  omega
theorem i_max {x y : Int32} : (if x < y then y else x).toInt = if x.toInt < y.toInt then y.toInt else x.toInt := by
  by_cases h : x < y
  · rw [if_pos h, if_pos (i_lt.mp h)]
  · rw [if_neg h, if_neg (fun e => h (i_lt.mpr e))]
/-- the greatest of those up to i, seen from i -/
def isL (u : TS) (K i : Nat) (r : Int) : Prop := (∀ j, j ≤ i → lvI u j - K * ((i : Int) - j) ≤ r) ∧ ∃ j, j ≤ i ∧ r = lvI u j - K * ((i : Int) - j)
theorem isL_rg {u : TS} {K i : Nat} {r : Int} (hI : TI u) (hi : i < 60) (h : isL u K i r) : -9999 ≤ r ∧ r ≤ 9999 := by
  obtain ⟨j, hj, e⟩ := h.2
  have h1 := h.1 i (Nat.le_refl i)
  rw [Int.sub_self, Int.mul_zero] at h1
  obtain ⟨l1, l2⟩ := hI.lv (k := i) (by omega)
  obtain ⟨k1, k2⟩ := hI.lv (k := j) (by omega)
  have hp : 0 ≤ (K : Int) * ((i : Int) - j) := Int.mul_nonneg (by omega) (by omega)
  unfold lvI at *
  omega
theorem mul_s (K : Int) (a : Int) : K * (a + 1) = K * a + K := by rw [Int.mul_add, Int.mul_one]
theorem isL_s {u : TS} {K i : Nat} {r r' : Int} (h : isL u K i r) (e : r' = if r - K < lvI u (i + 1) then lvI u (i + 1) else r - K) : isL u K (i + 1) r' := by
  obtain ⟨h1, j, hj, ej⟩ := h
  refine ⟨fun k hk => ?_, ?_⟩
  · by_cases hk2 : k ≤ i
    · have := h1 k hk2
      rw [show ((i + 1 : Nat) : Int) - k = ((i : Int) - k) + 1 by omega, mul_s]
      split at e <;> omega
    · have : k = i + 1 := by omega
      subst this
      rw [Int.sub_self, Int.mul_zero]
      split at e <;> omega
  · by_cases c : r - K < lvI u (i + 1)
    · rw [if_pos c] at e
      exact ⟨i + 1, Nat.le_refl _, by rw [Int.sub_self, Int.mul_zero]; omega⟩
    · rw [if_neg c] at e
      refine ⟨j, by omega, ?_⟩
      rw [show ((i + 1 : Nat) : Int) - j = ((i : Int) - j) + 1 by omega, mul_s]
      omega
theorem isL_0 {u : TS} {K : Nat} : isL u K 0 (lvI u 0) := by
  refine ⟨fun k hk => ?_, 0, Nat.le_refl _, ?_⟩
  · have : k = 0 := by omega
    subst this
    rw [Int.sub_self, Int.mul_zero]
    omega
  · rw [Int.sub_self, Int.mul_zero]
    omega
theorem isR_last {u : TS} {N K : Nat} {r : Int} (hN : 0 < N) (h : isL u K (N - 1) r) : isR u N K (N - 1) r := by
  obtain ⟨h1, j, hj, ej⟩ := h
  have ed : ∀ k, k < N → dst (N - 1) k = ((N - 1 : Nat) : Int) - k := fun k hk => by
    unfold dst
    rw [if_pos (by omega)]
  refine ⟨fun k hk => ?_, j, by omega, ?_⟩
  · rw [ed k hk]
    exact h1 k (by omega)
  · rw [ed j (by omega)]
    exact ej
theorem isR_s {u : TS} {N K i : Nat} {r l r' : Int} (hK : 1 ≤ K) (hi : i + 1 < N) (h : isR u N K (i + 1) r) (hl : isL u K i l) (e : r' = if r - K < l then l else r - K) : isR u N K i r' := by
  obtain ⟨h1, j, hj, ej⟩ := h
  obtain ⟨l1, k, hk, ek⟩ := hl
  have dl : ∀ z, z ≤ i → dst i z = (i : Int) - z := fun z hz => by
    unfold dst
    rw [if_pos hz]
  have dr : ∀ z, i < z → dst i z = dst (i + 1) z + 1 := fun z hz => by
    unfold dst
    rw [if_neg (by omega)]
    by_cases c : z ≤ i + 1
    · rw [if_pos c]
      omega
    · rw [if_neg c]
      omega
  have dn : ∀ z, z ≤ i → dst (i + 1) z = ((i : Int) - z) + 1 := fun z hz => by
    unfold dst
    rw [if_pos (by omega)]
    omega
  refine ⟨fun z hz => ?_, ?_⟩
  · by_cases c : z ≤ i
    · rw [dl z c]
      have := l1 z c
      split at e <;> omega
    · rw [dr z (by omega), mul_s]
      have := h1 z hz
      split at e <;> omega
  · by_cases c : r - K < l
    · rw [if_pos c] at e
      exact ⟨k, by omega, by rw [dl k hk]; omega⟩
    · rw [if_neg c] at e
      by_cases c2 : j ≤ i
      · exfalso
        have := l1 j c2
        rw [dn j c2, mul_s] at ej
        omega
      · refine ⟨j, hj, ?_⟩
        rw [dr j (by omega), mul_s]
        omega
