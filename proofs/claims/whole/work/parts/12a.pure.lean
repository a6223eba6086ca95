/-! ===== pure rows ===== -/
theorem nm_d {α β : Type} (e : α) (k : α → β) : nm e k = k e := rfl
theorem jn_e {κ β : Type} (K : κ) (M : κ → β) : jn K M = M K := rfl
theorem bd_s {α β : Type} (a : α) (k : α → Option β) : bd (some a) k = k a := rfl
theorem ix_v {α : Type} {i : Int32} {n : Nat} {k : Option α} (h0 : 0 ≤ i.toInt) (h1 : i.toInt < (n : Int)) : ix i n k = k := by
  unfold ix
  exact if_pos ⟨h0, h1⟩
theorem ix_n {α : Type} {j n : Nat} {k : Option α} (h : j < n) (hn : n < 2147483648) : ix (nI j) n k = k := ix_v (by rw [nI_toInt (by omega)]; omega) (by rw [nI_toInt (by omega)]; omega)
theorem n_cl {j : Nat} (h : j < 2147483648) : (nI j).toNatClampNeg = j := nI_clamp (by omega)
theorem n_ti {j : Nat} (h : j < 2147483648) : (nI j).toInt = (j : Int) := nI_toInt (by omega)
theorem bI_t : bI true = 1 := rfl
theorem bI_f : bI false = 0 := rfl
theorem bI_0 (b : Bool) : bI b = 0 ↔ b = false := by cases b <;> simp [bI]
theorem i_bm {z : Int} (h1 : -2147483648 ≤ z) (h2 : z < 2147483648) : z.bmod (2 ^ 32) = z := by
  rw [Int.bmod_eq_of_le (by omega) (by omega)]
theorem i_add {x y : Int32} (h1 : -2147483648 ≤ x.toInt + y.toInt) (h2 : x.toInt + y.toInt < 2147483648) : (x + y).toInt = x.toInt + y.toInt := by
  rw [Int32.toInt_add, i_bm h1 h2]
theorem i_sub {x y : Int32} (h1 : -2147483648 ≤ x.toInt - y.toInt) (h2 : x.toInt - y.toInt < 2147483648) : (x - y).toInt = x.toInt - y.toInt := by
  rw [Int32.toInt_sub, i_bm h1 h2]
theorem i_mul {x y : Int32} (h1 : -2147483648 ≤ x.toInt * y.toInt) (h2 : x.toInt * y.toInt < 2147483648) : (x * y).toInt = x.toInt * y.toInt := by
  rw [Int32.toInt_mul, i_bm h1 h2]
theorem i_lt {x y : Int32} : x < y ↔ x.toInt < y.toInt := Int32.lt_iff_toInt_lt
theorem i_le {x y : Int32} : x ≤ y ↔ x.toInt ≤ y.toInt := Int32.le_iff_toInt_le
theorem i_eq {x y : Int32} : x = y ↔ x.toInt = y.toInt := Int32.toInt_inj.symm
theorem i_rg (x : Int32) : -2147483648 ≤ x.toInt ∧ x.toInt < 2147483648 := by
  have h1 := Int32.le_toInt x
  have h2 := Int32.toInt_lt x
  omega
/-- a number that isn't negative is nI of a natural one -/
theorem i_of {x : Int32} (h : 0 ≤ x.toInt) : ∃ j : Nat, x = nI j ∧ (j : Int) = x.toInt ∧ j < 2147483648 := by
  obtain ⟨h1, h2⟩ := i_rg x
  refine ⟨x.toInt.toNat, ?_, by omega, by omega⟩
  rw [i_eq, n_ti (by omega)]
  omega
def rg (x : Int32) (a b : Int) : Prop := a ≤ x.toInt ∧ x.toInt ≤ b
theorem n_a (k j : Nat) : nI k + nI j = nI (k + j) := nI_add k j
theorem n_41 (j : Nat) : (41 : Int32) + nI j = nI (41 + j) := nI_add 41 j
theorem n_101 (j : Nat) : (101 : Int32) + nI j = nI (101 + j) := nI_add 101 j
theorem n_161 (j : Nat) : (161 : Int32) + nI j = nI (161 + j) := nI_add 161 j
theorem n_221 (j : Nat) : (221 : Int32) + nI j = nI (221 + j) := nI_add 221 j
theorem n_281 (j : Nat) : (281 : Int32) * nI j = nI (281 * j) := pk_mul 281 j
theorem n_17 (j : Nat) : (17 : Int32) + nI j = nI (17 + j) := nI_add 17 j
theorem n_9 (j : Nat) : (9 : Int32) + nI j = nI (9 + j) := nI_add 9 j
theorem n_4 (j : Nat) : (4 : Int32) + nI j = nI (4 + j) := nI_add 4 j
theorem n_m4 (j : Nat) : (4 : Int32) * nI j = nI (4 * j) := pk_mul 4 j
theorem n_4m (j : Nat) : nI j * (4 : Int32) = nI (4 * j) := by rw [show nI j * (4 : Int32) = nI (j * 4) from pk_mul j 4, Nat.mul_comm]
theorem n_1 (j : Nat) : (1 : Int32) + nI j = nI (1 + j) := nI_add 1 j
theorem n_p1 (j : Nat) : nI j + (1 : Int32) = nI (j + 1) := nI_add j 1
theorem n_p2 (j : Nat) : nI j + (2 : Int32) = nI (j + 2) := nI_add j 2
theorem n_p3 (j : Nat) : nI j + (3 : Int32) = nI (j + 3) := nI_add j 3
theorem n_p4 (j : Nat) : nI j + (4 : Int32) = nI (j + 4) := nI_add j 4
theorem n_p0 (j : Nat) : nI j + (0 : Int32) = nI j := nI_add j 0
theorem n_p281 (j : Nat) : nI j + (281 : Int32) = nI (j + 281) := nI_add j 281
theorem n_le {a b : Nat} (ha : a < 2147483648) (hb : b < 2147483648) : nI a ≤ nI b ↔ a ≤ b := nI_leI (by omega) (by omega)
theorem n_lt {a b : Nat} (ha : a < 2147483648) (hb : b < 2147483648) : nI a < nI b ↔ a < b := nI_ltI (by omega) (by omega)
theorem n_eq {a b : Nat} (ha : a < 2147483648) (hb : b < 2147483648) : nI a = nI b ↔ a = b := nI_eq (by omega) (by omega)
/-- loops: with the step's measure d -/
theorem lq_k1 {A1 X : Type} {F : (A1 → Option X) → A1 → Option X} (I : Nat → A1 → Prop) (Q : X → Prop) (step : ∀ (rec : A1 → Option X) (d : Nat) (a1 : A1), I d a1 → (∀ (d' : Nat) (b1 : A1), d' < d → I d' b1 → ∃ x, rec b1 = some x ∧ Q x) → ∃ x, F rec a1 = some x ∧ Q x) : ∀ (n d : Nat) (a1 : A1), d < n → I d a1 → ∃ x, lq_1 F n a1 = some x ∧ Q x := by
  intro n
  induction n with
  | zero => intro d a1 h; omega
  | succ n ih => intro d a1 h hI; exact step _ d a1 hI (fun d' b1 h1 h2 => ih d' b1 (by omega) h2)
theorem lq_k2 {A1 A2 X : Type} {F : (A1 → A2 → Option X) → A1 → A2 → Option X} (I : Nat → A1 → A2 → Prop) (Q : X → Prop) (step : ∀ (rec : A1 → A2 → Option X) (d : Nat) (a1 : A1) (a2 : A2), I d a1 a2 → (∀ (d' : Nat) (b1 : A1) (b2 : A2), d' < d → I d' b1 b2 → ∃ x, rec b1 b2 = some x ∧ Q x) → ∃ x, F rec a1 a2 = some x ∧ Q x) : ∀ (n d : Nat) (a1 : A1) (a2 : A2), d < n → I d a1 a2 → ∃ x, lq_2 F n a1 a2 = some x ∧ Q x := by
  intro n
  induction n with
  | zero => intro d a1 a2 h; omega
  | succ n ih => intro d a1 a2 h hI; exact step _ d a1 a2 hI (fun d' b1 b2 h1 h2 => ih d' b1 b2 (by omega) h2)
theorem lq_k3 {A1 A2 A3 X : Type} {F : (A1 → A2 → A3 → Option X) → A1 → A2 → A3 → Option X} (I : Nat → A1 → A2 → A3 → Prop) (Q : X → Prop) (step : ∀ (rec : A1 → A2 → A3 → Option X) (d : Nat) (a1 : A1) (a2 : A2) (a3 : A3), I d a1 a2 a3 → (∀ (d' : Nat) (b1 : A1) (b2 : A2) (b3 : A3), d' < d → I d' b1 b2 b3 → ∃ x, rec b1 b2 b3 = some x ∧ Q x) → ∃ x, F rec a1 a2 a3 = some x ∧ Q x) : ∀ (n d : Nat) (a1 : A1) (a2 : A2) (a3 : A3), d < n → I d a1 a2 a3 → ∃ x, lq_3 F n a1 a2 a3 = some x ∧ Q x := by
  intro n
  induction n with
  | zero => intro d a1 a2 a3 h; omega
  | succ n ih => intro d a1 a2 a3 h hI; exact step _ d a1 a2 a3 hI (fun d' b1 b2 b3 h1 h2 => ih d' b1 b2 b3 (by omega) h2)
theorem lq_k4 {A1 A2 A3 A4 X : Type} {F : (A1 → A2 → A3 → A4 → Option X) → A1 → A2 → A3 → A4 → Option X} (I : Nat → A1 → A2 → A3 → A4 → Prop) (Q : X → Prop) (step : ∀ (rec : A1 → A2 → A3 → A4 → Option X) (d : Nat) (a1 : A1) (a2 : A2) (a3 : A3) (a4 : A4), I d a1 a2 a3 a4 → (∀ (d' : Nat) (b1 : A1) (b2 : A2) (b3 : A3) (b4 : A4), d' < d → I d' b1 b2 b3 b4 → ∃ x, rec b1 b2 b3 b4 = some x ∧ Q x) → ∃ x, F rec a1 a2 a3 a4 = some x ∧ Q x) : ∀ (n d : Nat) (a1 : A1) (a2 : A2) (a3 : A3) (a4 : A4), d < n → I d a1 a2 a3 a4 → ∃ x, lq_4 F n a1 a2 a3 a4 = some x ∧ Q x := by
  intro n
  induction n with
  | zero => intro d a1 a2 a3 a4 h; omega
  | succ n ih => intro d a1 a2 a3 a4 h hI; exact step _ d a1 a2 a3 a4 hI (fun d' b1 b2 b3 b4 h1 h2 => ih d' b1 b2 b3 b4 (by omega) h2)
def TR (u : TS) (s : Nat → Int32) : Prop := S_sl u = s 0 ∧ (∀ k, k < 8 → S_nu u k = s (1 + k)) ∧ (∀ k, k < 7 → S_ac u k = s (9 + k)) ∧ S_jb u = s 16 ∧ (∀ k, k < 60 → S_lv u k = s (41 + k)) ∧ (∀ k, k < 60 → S_fo u k = s (101 + k)) ∧ (∀ k, k < 60 → S_se u k = s (161 + k)) ∧ (∀ k, k < 60 → S_li u k = s (221 + k)) ∧ (∀ k : Nat, k < 24 → (k : Int) < 4 * (S_jb u).toInt → S_jr u k = s (17 + k))
theorem TR.sl {u : TS} {s : Nat → Int32} (h : TR u s) : S_sl u = s 0 := h.1
theorem TR.nu {u : TS} {s : Nat → Int32} (h : TR u s) {k : Nat} (hk : k < 8) : S_nu u k = s (1 + k) := h.2.1 k hk
theorem TR.ac {u : TS} {s : Nat → Int32} (h : TR u s) {k : Nat} (hk : k < 7) : S_ac u k = s (9 + k) := h.2.2.1 k hk
theorem TR.jb {u : TS} {s : Nat → Int32} (h : TR u s) : S_jb u = s 16 := h.2.2.2.1
theorem TR.lv {u : TS} {s : Nat → Int32} (h : TR u s) {k : Nat} (hk : k < 60) : S_lv u k = s (41 + k) := h.2.2.2.2.1 k hk
theorem TR.fo {u : TS} {s : Nat → Int32} (h : TR u s) {k : Nat} (hk : k < 60) : S_fo u k = s (101 + k) := h.2.2.2.2.2.1 k hk
theorem TR.se {u : TS} {s : Nat → Int32} (h : TR u s) {k : Nat} (hk : k < 60) : S_se u k = s (161 + k) := h.2.2.2.2.2.2.1 k hk
theorem TR.li {u : TS} {s : Nat → Int32} (h : TR u s) {k : Nat} (hk : k < 60) : S_li u k = s (221 + k) := h.2.2.2.2.2.2.2.1 k hk
theorem TR.jr {u : TS} {s : Nat → Int32} (h : TR u s) {k : Nat} (hk : k < 24) (hj : (k : Int) < 4 * (S_jb u).toInt) : S_jr u k = s (17 + k) := h.2.2.2.2.2.2.2.2 k hk hj
theorem TR_nu {u : TS} {s : Nat → Int32} {i : Nat} {x : Int32} (h : TR u s) (hi : i < 8) : TR (S_nu_ u (upd (S_nu u) i x)) (upd s (1 + i) x) := by
  obtain ⟨h0, h1, h2, h3, h4, h5, h6, h7, h8⟩ := h
  refine ⟨?_, fun k hk => ?_, fun k hk => ?_, ?_, fun k hk => ?_, fun k hk => ?_, fun k hk => ?_, fun k hk => ?_, fun k hk hj => ?_⟩
  · exact Eq.trans (h0) (pk_un (by omega)).symm
  · show upd (S_nu u) i x k = upd s (1 + i) x (1 + k)
    by_cases e : k = i
    · rw [e, pk_us, pk_us]
    · rw [pk_un e, pk_un (by omega)]; exact h1 k hk
  · exact Eq.trans (h2 k hk) (pk_un (by omega)).symm
  · exact Eq.trans (h3) (pk_un (by omega)).symm
  · exact Eq.trans (h4 k hk) (pk_un (by omega)).symm
  · exact Eq.trans (h5 k hk) (pk_un (by omega)).symm
  · exact Eq.trans (h6 k hk) (pk_un (by omega)).symm
  · exact Eq.trans (h7 k hk) (pk_un (by omega)).symm
  · exact Eq.trans (h8 k hk hj) (pk_un (by omega)).symm
theorem TR_ac {u : TS} {s : Nat → Int32} {i : Nat} {x : Int32} (h : TR u s) (hi : i < 7) : TR (S_ac_ u (upd (S_ac u) i x)) (upd s (9 + i) x) := by
  obtain ⟨h0, h1, h2, h3, h4, h5, h6, h7, h8⟩ := h
  refine ⟨?_, fun k hk => ?_, fun k hk => ?_, ?_, fun k hk => ?_, fun k hk => ?_, fun k hk => ?_, fun k hk => ?_, fun k hk hj => ?_⟩
  · exact Eq.trans (h0) (pk_un (by omega)).symm
  · exact Eq.trans (h1 k hk) (pk_un (by omega)).symm
  · show upd (S_ac u) i x k = upd s (9 + i) x (9 + k)
    by_cases e : k = i
    · rw [e, pk_us, pk_us]
    · rw [pk_un e, pk_un (by omega)]; exact h2 k hk
  · exact Eq.trans (h3) (pk_un (by omega)).symm
  · exact Eq.trans (h4 k hk) (pk_un (by omega)).symm
  · exact Eq.trans (h5 k hk) (pk_un (by omega)).symm
  · exact Eq.trans (h6 k hk) (pk_un (by omega)).symm
  · exact Eq.trans (h7 k hk) (pk_un (by omega)).symm
  · exact Eq.trans (h8 k hk hj) (pk_un (by omega)).symm
theorem TR_lv {u : TS} {s : Nat → Int32} {i : Nat} {x : Int32} (h : TR u s) (hi : i < 60) : TR (S_lv_ u (upd (S_lv u) i x)) (upd s (41 + i) x) := by
  obtain ⟨h0, h1, h2, h3, h4, h5, h6, h7, h8⟩ := h
  refine ⟨?_, fun k hk => ?_, fun k hk => ?_, ?_, fun k hk => ?_, fun k hk => ?_, fun k hk => ?_, fun k hk => ?_, fun k hk hj => ?_⟩
  · exact Eq.trans (h0) (pk_un (by omega)).symm
  · exact Eq.trans (h1 k hk) (pk_un (by omega)).symm
  · exact Eq.trans (h2 k hk) (pk_un (by omega)).symm
  · exact Eq.trans (h3) (pk_un (by omega)).symm
  · show upd (S_lv u) i x k = upd s (41 + i) x (41 + k)
    by_cases e : k = i
    · rw [e, pk_us, pk_us]
    · rw [pk_un e, pk_un (by omega)]; exact h4 k hk
  · exact Eq.trans (h5 k hk) (pk_un (by omega)).symm
  · exact Eq.trans (h6 k hk) (pk_un (by omega)).symm
  · exact Eq.trans (h7 k hk) (pk_un (by omega)).symm
  · exact Eq.trans (h8 k hk hj) (pk_un (by omega)).symm
theorem TR_fo {u : TS} {s : Nat → Int32} {i : Nat} {x : Int32} (h : TR u s) (hi : i < 60) : TR (S_fo_ u (upd (S_fo u) i x)) (upd s (101 + i) x) := by
  obtain ⟨h0, h1, h2, h3, h4, h5, h6, h7, h8⟩ := h
  refine ⟨?_, fun k hk => ?_, fun k hk => ?_, ?_, fun k hk => ?_, fun k hk => ?_, fun k hk => ?_, fun k hk => ?_, fun k hk hj => ?_⟩
  · exact Eq.trans (h0) (pk_un (by omega)).symm
  · exact Eq.trans (h1 k hk) (pk_un (by omega)).symm
  · exact Eq.trans (h2 k hk) (pk_un (by omega)).symm
  · exact Eq.trans (h3) (pk_un (by omega)).symm
  · exact Eq.trans (h4 k hk) (pk_un (by omega)).symm
  · show upd (S_fo u) i x k = upd s (101 + i) x (101 + k)
    by_cases e : k = i
    · rw [e, pk_us, pk_us]
    · rw [pk_un e, pk_un (by omega)]; exact h5 k hk
  · exact Eq.trans (h6 k hk) (pk_un (by omega)).symm
  · exact Eq.trans (h7 k hk) (pk_un (by omega)).symm
  · exact Eq.trans (h8 k hk hj) (pk_un (by omega)).symm
theorem TR_se {u : TS} {s : Nat → Int32} {i : Nat} {x : Int32} (h : TR u s) (hi : i < 60) : TR (S_se_ u (upd (S_se u) i x)) (upd s (161 + i) x) := by
  obtain ⟨h0, h1, h2, h3, h4, h5, h6, h7, h8⟩ := h
  refine ⟨?_, fun k hk => ?_, fun k hk => ?_, ?_, fun k hk => ?_, fun k hk => ?_, fun k hk => ?_, fun k hk => ?_, fun k hk hj => ?_⟩
  · exact Eq.trans (h0) (pk_un (by omega)).symm
  · exact Eq.trans (h1 k hk) (pk_un (by omega)).symm
  · exact Eq.trans (h2 k hk) (pk_un (by omega)).symm
  · exact Eq.trans (h3) (pk_un (by omega)).symm
  · exact Eq.trans (h4 k hk) (pk_un (by omega)).symm
  · exact Eq.trans (h5 k hk) (pk_un (by omega)).symm
  · show upd (S_se u) i x k = upd s (161 + i) x (161 + k)
    by_cases e : k = i
    · rw [e, pk_us, pk_us]
    · rw [pk_un e, pk_un (by omega)]; exact h6 k hk
  · exact Eq.trans (h7 k hk) (pk_un (by omega)).symm
  · exact Eq.trans (h8 k hk hj) (pk_un (by omega)).symm
theorem TR_li {u : TS} {s : Nat → Int32} {i : Nat} {x : Int32} (h : TR u s) (hi : i < 60) : TR (S_li_ u (upd (S_li u) i x)) (upd s (221 + i) x) := by
  obtain ⟨h0, h1, h2, h3, h4, h5, h6, h7, h8⟩ := h
  refine ⟨?_, fun k hk => ?_, fun k hk => ?_, ?_, fun k hk => ?_, fun k hk => ?_, fun k hk => ?_, fun k hk => ?_, fun k hk hj => ?_⟩
  · exact Eq.trans (h0) (pk_un (by omega)).symm
  · exact Eq.trans (h1 k hk) (pk_un (by omega)).symm
  · exact Eq.trans (h2 k hk) (pk_un (by omega)).symm
  · exact Eq.trans (h3) (pk_un (by omega)).symm
  · exact Eq.trans (h4 k hk) (pk_un (by omega)).symm
  · exact Eq.trans (h5 k hk) (pk_un (by omega)).symm
  · exact Eq.trans (h6 k hk) (pk_un (by omega)).symm
  · show upd (S_li u) i x k = upd s (221 + i) x (221 + k)
    by_cases e : k = i
    · rw [e, pk_us, pk_us]
    · rw [pk_un e, pk_un (by omega)]; exact h7 k hk
  · exact Eq.trans (h8 k hk hj) (pk_un (by omega)).symm
def JI (u : TS) (j : Nat) : Prop := 0 ≤ (S_jr u (4 * j)).toInt ∧ (S_jr u (4 * j)).toInt ≤ (S_jr u (4 * j + 3)).toInt ∧ (S_jr u (4 * j + 3)).toInt ≤ (S_jr u (4 * j + 1)).toInt ∧ (S_jr u (4 * j + 1)).toInt < (S_sl u).toInt ∧ rg (S_jr u (4 * j + 2)) (-9999) 9999
def TI (u : TS) : Prop := rg (S_sl u) 10 60 ∧ (rg (S_nu u 0) 1 20 ∧ rg (S_nu u 1) 0 99 ∧ rg (S_nu u 2) 1 5 ∧ (1 ≤ (S_nu u 3).toInt ∧ (S_nu u 3).toInt < (S_nu u 4).toInt ∧ (S_nu u 4).toInt < (S_nu u 5).toInt ∧ (S_nu u 5).toInt ≤ 2000) ∧ rg (S_nu u 6) 10 500 ∧ rg (S_nu u 7) 1 50) ∧ (∀ k, k < 60 → rg (S_lv u k) (-9999) 9999) ∧ (∀ k, k < 60 → rg (S_fo u k) 0 100) ∧ rg (S_jb u) 0 6 ∧ (∀ j : Nat, (j : Int) < (S_jb u).toInt → JI u j)
theorem TI.sl {u : TS} (h : TI u) : rg (S_sl u) 10 60 := h.1
theorem TI.nu {u : TS} (h : TI u) : rg (S_nu u 0) 1 20 ∧ rg (S_nu u 1) 0 99 ∧ rg (S_nu u 2) 1 5 ∧ (1 ≤ (S_nu u 3).toInt ∧ (S_nu u 3).toInt < (S_nu u 4).toInt ∧ (S_nu u 4).toInt < (S_nu u 5).toInt ∧ (S_nu u 5).toInt ≤ 2000) ∧ rg (S_nu u 6) 10 500 ∧ rg (S_nu u 7) 1 50 := h.2.1
theorem TI.lv {u : TS} (h : TI u) {k : Nat} (hk : k < 60) : rg (S_lv u k) (-9999) 9999 := h.2.2.1 k hk
theorem TI.fo {u : TS} (h : TI u) {k : Nat} (hk : k < 60) : rg (S_fo u k) 0 100 := h.2.2.2.1 k hk
theorem TI.jb {u : TS} (h : TI u) : rg (S_jb u) 0 6 := h.2.2.2.2.1
theorem TI.jr {u : TS} (h : TI u) {j : Nat} (hj : (j : Int) < (S_jb u).toInt) : JI u j := h.2.2.2.2.2 j hj
theorem TI_lv {u : TS} {i : Nat} {x : Int32} (h : TI u) (hx : rg x (-9999) 9999) : TI (S_lv_ u (upd (S_lv u) i x)) := by
  obtain ⟨h0, h1, h2, h3, h4, h5⟩ := h
  refine ⟨h0, h1, fun k hk => ?_, h3, h4, h5⟩
  show rg (upd (S_lv u) i x k) (-9999) 9999
  by_cases e : k = i
  · rw [e, pk_us]; exact hx
  · rw [pk_un e]; exact h2 k hk
theorem TI_fo {u : TS} {i : Nat} {x : Int32} (h : TI u) (hx : rg x 0 100) : TI (S_fo_ u (upd (S_fo u) i x)) := by
  obtain ⟨h0, h1, h2, h3, h4, h5⟩ := h
  refine ⟨h0, h1, h2, fun k hk => ?_, h4, h5⟩
  show rg (upd (S_fo u) i x k) 0 100
  by_cases e : k = i
  · rw [e, pk_us]; exact hx
  · rw [pk_un e]; exact h3 k hk
theorem TI_ac {u : TS} {f : Nat → Int32} (h : TI u) : TI (S_ac_ u f) := h
theorem TI_se {u : TS} {f : Nat → Int32} (h : TI u) : TI (S_se_ u f) := h
theorem TI_li {u : TS} {f : Nat → Int32} (h : TI u) : TI (S_li_ u f) := h
/-- the numbers of a track as natural ones -/
theorem TI.nat {u : TS} (h : TI u) : ∃ N K H A : Nat, S_sl u = nI N ∧ 10 ≤ N ∧ N ≤ 60 ∧ S_nu u 0 = nI K ∧ 1 ≤ K ∧ K ≤ 20 ∧ S_nu u 1 = nI H ∧ H ≤ 99 ∧ S_nu u 2 = nI A ∧ 1 ≤ A ∧ A ≤ 5 := by
  obtain ⟨⟨a1, a2⟩, ⟨⟨b1, b2⟩, ⟨c1, c2⟩, ⟨d1, d2⟩, -⟩, -⟩ := h
  obtain ⟨N, e1, e2, -⟩ := i_of (x := S_sl u) (by omega)
  obtain ⟨K, f1, f2, -⟩ := i_of (x := S_nu u 0) (by omega)
  obtain ⟨H, g1, g2, -⟩ := i_of (x := S_nu u 1) (by omega)
  obtain ⟨A, k1, k2, -⟩ := i_of (x := S_nu u 2) (by omega)
  exact ⟨N, K, H, A, e1, by omega, by omega, f1, by omega, by omega, g1, by omega, k1, by omega, by omega⟩
