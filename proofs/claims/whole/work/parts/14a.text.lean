/-! the text -/
def dgP (x : Int32) : Prop := (48 : Int32).toInt ≤ x.toInt ∧ x.toInt ≤ (57 : Int32).toInt
theorem by_all : ∀ j : Nat, j < 256 → ((nI j).toInt8.toInt32 = 32 ↔ nI j = 32) ∧ ((nI j).toInt8.toInt32 = 48 ↔ nI j = 48) ∧ ((nI j).toInt8.toInt32 &&& 255) = nI j ∧ (((48 : Int32).toInt ≤ ((nI j).toInt8.toInt32).toInt ∧ ((nI j).toInt8.toInt32).toInt ≤ (57 : Int32).toInt) ↔ ((48 : Int32).toInt ≤ (nI j).toInt ∧ (nI j).toInt ≤ (57 : Int32).toInt)) ∧ (((48 : Int32).toInt ≤ (nI j).toInt ∧ (nI j).toInt ≤ (57 : Int32).toInt) → (nI j).toInt8.toInt32 = nI j) := by decide +kernel
def HX (c : Nat → Int32) (n : Nat) (m : TM) : Prop := n ≤ 100 ∧ M_ty m = nI n ∧ ∀ k, k < n → rg (c k) 0 255 ∧ M_tx m k = (c k).toInt8.toInt32
theorem HX_b {c : Nat → Int32} {n k : Nat} {m : TM} (h : HX c n m) (hk : k < n) : (M_tx m k = 32 ↔ c k = 32) ∧ (M_tx m k = 48 ↔ c k = 48) ∧ (M_tx m k &&& 255) = c k ∧ (dgP (M_tx m k) ↔ dgP (c k)) ∧ (dgP (c k) → M_tx m k = c k) := by
  obtain ⟨h1, h2, h3⟩ := h
  obtain ⟨⟨a, b⟩, e⟩ := h3 k hk
  obtain ⟨j, ej, ej2, -⟩ := i_of (x := c k) a
  rw [e, ej]
  exact by_all j (by omega)
