theorem nm_d {α β : Type} (e : α) (k : α → β) : nm e k = k e := rfl
theorem jn_e {κ β : Type} (K : κ) (M : κ → β) : jn K M = M K := rfl
theorem bd_s {α β : Type} (a : α) (k : α → Option β) : bd (some a) k = k a := rfl
theorem ix_v {α : Type} {i : Int32} {n : Nat} {k : Option α} (h0 : 0 ≤ i.toInt) (h1 : i.toInt < (n : Int)) : ix i n k = k := by
  unfold ix
  exact if_pos ⟨h0, h1⟩
theorem ix_n {α : Type} {j n : Nat} {k : Option α} (h : j < n) (hn : n < 2147483648) : ix (nI j) n k = k := ix_v (by rw [nI_toInt (by omega)]; omega) (by rw [nI_toInt (by omega)]; omega)
theorem n_cl {j : Nat} (h : j < 2147483648) : (nI j).toNatClampNeg = j := nI_clamp (by omega)
theorem n_ti {j : Nat} (h : j < 2147483648) : (nI j).toInt = (j : Int) := nI_toInt (by omega)
theorem bI_t : bI true = 1 := rfl
theorem bI_f : bI false = 0 := rfl
theorem bI_0 (b : Bool) : bI b = 0 ↔ b = false := by cases b <;> simp [bI]
theorem i_bm {z : Int} (h1 : -2147483648 ≤ z) (h2 : z < 2147483648) : z.bmod (2 ^ 32) = z := by
  rw [Int.bmod_eq_of_le (by omega) (by omega)]
theorem i_add {x y : Int32} (h1 : -2147483648 ≤ x.toInt + y.toInt) (h2 : x.toInt + y.toInt < 2147483648) : (x + y).toInt = x.toInt + y.toInt := by
  rw [Int32.toInt_add, i_bm h1 h2]
theorem i_sub {x y : Int32} (h1 : -2147483648 ≤ x.toInt - y.toInt) (h2 : x.toInt - y.toInt < 2147483648) : (x - y).toInt = x.toInt - y.toInt := by
  rw [Int32.toInt_sub, i_bm h1 h2]
theorem i_mul {x y : Int32} (h1 : -2147483648 ≤ x.toInt * y.toInt) (h2 : x.toInt * y.toInt < 2147483648) : (x * y).toInt = x.toInt * y.toInt := by
  rw [Int32.toInt_mul, i_bm h1 h2]
theorem i_lt {x y : Int32} : x < y ↔ x.toInt < y.toInt := Int32.lt_iff_toInt_lt
theorem i_le {x y : Int32} : x ≤ y ↔ x.toInt ≤ y.toInt := Int32.le_iff_toInt_le
theorem i_eq {x y : Int32} : x = y ↔ x.toInt = y.toInt := Int32.toInt_inj.symm
theorem i_rg (x : Int32) : -2147483648 ≤ x.toInt ∧ x.toInt < 2147483648 := by
  have h1 := Int32.le_toInt x
  have h2 := Int32.toInt_lt x
  omega
/-- a number that isn't negative is nI of a natural one -/
theorem i_of {x : Int32} (h : 0 ≤ x.toInt) : ∃ j : Nat, x = nI j ∧ (j : Int) = x.toInt ∧ j < 2147483648 := by
  obtain ⟨h1, h2⟩ := i_rg x
  refine ⟨x.toInt.toNat, ?_, by omega, by omega⟩
  rw [i_eq, n_ti (by omega)]
  omega
def rg (x : Int32) (a b : Int) : Prop := a ≤ x.toInt ∧ x.toInt ≤ b
theorem n_a (k j : Nat) : nI k + nI j = nI (k + j) := nI_add k j
theorem n_41 (j : Nat) : (41 : Int32) + nI j = nI (41 + j) := nI_add 41 j
theorem n_101 (j : Nat) : (101 : Int32) + nI j = nI (101 + j) := nI_add 101 j
theorem n_161 (j : Nat) : (161 : Int32) + nI j = nI (161 + j) := nI_add 161 j
theorem n_221 (j : Nat) : (221 : Int32) + nI j = nI (221 + j) := nI_add 221 j
theorem n_281 (j : Nat) : (281 : Int32) * nI j = nI (281 * j) := pk_mul 281 j
theorem n_17 (j : Nat) : (17 : Int32) + nI j = nI (17 + j) := nI_add 17 j
theorem n_9 (j : Nat) : (9 : Int32) + nI j = nI (9 + j) := nI_add 9 j
theorem n_4 (j : Nat) : (4 : Int32) + nI j = nI (4 + j) := nI_add 4 j
theorem n_m4 (j : Nat) : (4 : Int32) * nI j = nI (4 * j) := pk_mul 4 j
theorem n_4m (j : Nat) : nI j * (4 : Int32) = nI (4 * j) := by rw [show nI j * (4 : Int32) = nI (j * 4) from pk_mul j 4, Nat.mul_comm]
theorem n_1 (j : Nat) : (1 : Int32) + nI j = nI (1 + j) := nI_add 1 j
theorem n_p1 (j : Nat) : nI j + (1 : Int32) = nI (j + 1) := nI_add j 1
theorem n_p2 (j : Nat) : nI j + (2 : Int32) = nI (j + 2) := nI_add j 2
theorem n_p3 (j : Nat) : nI j + (3 : Int32) = nI (j + 3) := nI_add j 3
theorem n_p4 (j : Nat) : nI j + (4 : Int32) = nI (j + 4) := nI_add j 4
theorem n_p0 (j : Nat) : nI j + (0 : Int32) = nI j := nI_add j 0
theorem n_p281 (j : Nat) : nI j + (281 : Int32) = nI (j + 281) := nI_add j 281
theorem n_le {a b : Nat} (ha : a < 2147483648) (hb : b < 2147483648) : nI a ≤ nI b ↔ a ≤ b := nI_leI (by omega) (by omega)
theorem n_lt {a b : Nat} (ha : a < 2147483648) (hb : b < 2147483648) : nI a < nI b ↔ a < b := nI_ltI (by omega) (by omega)
theorem n_eq {a b : Nat} (ha : a < 2147483648) (hb : b < 2147483648) : nI a = nI b ↔ a = b := nI_eq (by omega) (by omega)
/-- loops: with the step's measure d -/
theorem lq_k1 {A1 X : Type} {F : (A1 → Option X) → A1 → Option X} (I : Nat → A1 → Prop) (Q : X → Prop) (step : ∀ (rec : A1 → Option X) (d : Nat) (a1 : A1), I d a1 → (∀ (d' : Nat) (b1 : A1), d' < d → I d' b1 → ∃ x, rec b1 = some x ∧ Q x) → ∃ x, F rec a1 = some x ∧ Q x) : ∀ (n d : Nat) (a1 : A1), d < n → I d a1 → ∃ x, lq_1 F n a1 = some x ∧ Q x := by
  intro n
  induction n with
  | zero => intro d a1 h; omega
  | succ n ih => intro d a1 h hI; exact step _ d a1 hI (fun d' b1 h1 h2 => ih d' b1 (by omega) h2)
theorem lq_k2 {A1 A2 X : Type} {F : (A1 → A2 → Option X) → A1 → A2 → Option X} (I : Nat → A1 → A2 → Prop) (Q : X → Prop) (step : ∀ (rec : A1 → A2 → Option X) (d : Nat) (a1 : A1) (a2 : A2), I d a1 a2 → (∀ (d' : Nat) (b1 : A1) (b2 : A2), d' < d → I d' b1 b2 → ∃ x, rec b1 b2 = some x ∧ Q x) → ∃ x, F rec a1 a2 = some x ∧ Q x) : ∀ (n d : Nat) (a1 : A1) (a2 : A2), d < n → I d a1 a2 → ∃ x, lq_2 F n a1 a2 = some x ∧ Q x := by
  intro n
  induction n with
  | zero => intro d a1 a2 h; omega
  | succ n ih => intro d a1 a2 h hI; exact step _ d a1 a2 hI (fun d' b1 b2 h1 h2 => ih d' b1 b2 (by omega) h2)
theorem lq_k3 {A1 A2 A3 X : Type} {F : (A1 → A2 → A3 → Option X) → A1 → A2 → A3 → Option X} (I : Nat → A1 → A2 → A3 → Prop) (Q : X → Prop) (step : ∀ (rec : A1 → A2 → A3 → Option X) (d : Nat) (a1 : A1) (a2 : A2) (a3 : A3), I d a1 a2 a3 → (∀ (d' : Nat) (b1 : A1) (b2 : A2) (b3 : A3), d' < d → I d' b1 b2 b3 → ∃ x, rec b1 b2 b3 = some x ∧ Q x) → ∃ x, F rec a1 a2 a3 = some x ∧ Q x) : ∀ (n d : Nat) (a1 : A1) (a2 : A2) (a3 : A3), d < n → I d a1 a2 a3 → ∃ x, lq_3 F n a1 a2 a3 = some x ∧ Q x := by
  intro n
  induction n with
  | zero => intro d a1 a2 a3 h; omega
  | succ n ih => intro d a1 a2 a3 h hI; exact step _ d a1 a2 a3 hI (fun d' b1 b2 b3 h1 h2 => ih d' b1 b2 b3 (by omega) h2)
theorem lq_k4 {A1 A2 A3 A4 X : Type} {F : (A1 → A2 → A3 → A4 → Option X) → A1 → A2 → A3 → A4 → Option X} (I : Nat → A1 → A2 → A3 → A4 → Prop) (Q : X → Prop) (step : ∀ (rec : A1 → A2 → A3 → A4 → Option X) (d : Nat) (a1 : A1) (a2 : A2) (a3 : A3) (a4 : A4), I d a1 a2 a3 a4 → (∀ (d' : Nat) (b1 : A1) (b2 : A2) (b3 : A3) (b4 : A4), d' < d → I d' b1 b2 b3 b4 → ∃ x, rec b1 b2 b3 b4 = some x ∧ Q x) → ∃ x, F rec a1 a2 a3 a4 = some x ∧ Q x) : ∀ (n d : Nat) (a1 : A1) (a2 : A2) (a3 : A3) (a4 : A4), d < n → I d a1 a2 a3 a4 → ∃ x, lq_4 F n a1 a2 a3 a4 = some x ∧ Q x := by
  intro n
  induction n with
  | zero => intro d a1 a2 a3 a4 h; omega
  | succ n ih => intro d a1 a2 a3 a4 h hI; exact step _ d a1 a2 a3 a4 hI (fun d' b1 b2 b3 b4 h1 h2 => ih d' b1 b2 b3 b4 (by omega) h2)
def TR (u : TS) (s : Nat → Int32) : Prop := S_sl u = s 0 ∧ (∀ k, k < 8 → S_nu u k = s (1 + k)) ∧ (∀ k, k < 7 → S_ac u k = s (9 + k)) ∧ S_jb u = s 16 ∧ (∀ k, k < 60 → S_lv u k = s (41 + k)) ∧ (∀ k, k < 60 → S_fo u k = s (101 + k)) ∧ (∀ k, k < 60 → S_se u k = s (161 + k)) ∧ (∀ k, k < 60 → S_li u k = s (221 + k)) ∧ (∀ k : Nat, k < 24 → (k : Int) < 4 * (S_jb u).toInt → S_jr u k = s (17 + k))
theorem TR.sl {u : TS} {s : Nat → Int32} (h : TR u s) : S_sl u = s 0 := h.1
theorem TR.nu {u : TS} {s : Nat → Int32} (h : TR u s) {k : Nat} (hk : k < 8) : S_nu u k = s (1 + k) := h.2.1 k hk
theorem TR.ac {u : TS} {s : Nat → Int32} (h : TR u s) {k : Nat} (hk : k < 7) : S_ac u k = s (9 + k) := h.2.2.1 k hk
theorem TR.jb {u : TS} {s : Nat → Int32} (h : TR u s) : S_jb u = s 16 := h.2.2.2.1
theorem TR.lv {u : TS} {s : Nat → Int32} (h : TR u s) {k : Nat} (hk : k < 60) : S_lv u k = s (41 + k) := h.2.2.2.2.1 k hk
theorem TR.fo {u : TS} {s : Nat → Int32} (h : TR u s) {k : Nat} (hk : k < 60) : S_fo u k = s (101 + k) := h.2.2.2.2.2.1 k hk
theorem TR.se {u : TS} {s : Nat → Int32} (h : TR u s) {k : Nat} (hk : k < 60) : S_se u k = s (161 + k) := h.2.2.2.2.2.2.1 k hk
theorem TR.li {u : TS} {s : Nat → Int32} (h : TR u s) {k : Nat} (hk : k < 60) : S_li u k = s (221 + k) := h.2.2.2.2.2.2.2.1 k hk
theorem TR.jr {u : TS} {s : Nat → Int32} (h : TR u s) {k : Nat} (hk : k < 24) (hj : (k : Int) < 4 * (S_jb u).toInt) : S_jr u k = s (17 + k) := h.2.2.2.2.2.2.2.2 k hk hj
theorem TR_nu {u : TS} {s : Nat → Int32} {i : Nat} {x : Int32} (h : TR u s) (hi : i < 8) : TR (S_nu_ u (upd (S_nu u) i x)) (upd s (1 + i) x) := by
  obtain ⟨h0, h1, h2, h3, h4, h5, h6, h7, h8⟩ := h
  refine ⟨?_, fun k hk => ?_, fun k hk => ?_, ?_, fun k hk => ?_, fun k hk => ?_, fun k hk => ?_, fun k hk => ?_, fun k hk hj => ?_⟩
  · exact Eq.trans (h0) (pk_un (by omega)).symm
  · show upd (S_nu u) i x k = upd s (1 + i) x (1 + k)
    by_cases e : k = i
    · rw [e, pk_us, pk_us]
    · rw [pk_un e, pk_un (by omega)]; exact h1 k hk
  · exact Eq.trans (h2 k hk) (pk_un (by omega)).symm
  · exact Eq.trans (h3) (pk_un (by omega)).symm
  · exact Eq.trans (h4 k hk) (pk_un (by omega)).symm
  · exact Eq.trans (h5 k hk) (pk_un (by omega)).symm
  · exact Eq.trans (h6 k hk) (pk_un (by omega)).symm
  · exact Eq.trans (h7 k hk) (pk_un (by omega)).symm
  · exact Eq.trans (h8 k hk hj) (pk_un (by omega)).symm
theorem TR_ac {u : TS} {s : Nat → Int32} {i : Nat} {x : Int32} (h : TR u s) (hi : i < 7) : TR (S_ac_ u (upd (S_ac u) i x)) (upd s (9 + i) x) := by
  obtain ⟨h0, h1, h2, h3, h4, h5, h6, h7, h8⟩ := h
  refine ⟨?_, fun k hk => ?_, fun k hk => ?_, ?_, fun k hk => ?_, fun k hk => ?_, fun k hk => ?_, fun k hk => ?_, fun k hk hj => ?_⟩
  · exact Eq.trans (h0) (pk_un (by omega)).symm
  · exact Eq.trans (h1 k hk) (pk_un (by omega)).symm
  · show upd (S_ac u) i x k = upd s (9 + i) x (9 + k)
    by_cases e : k = i
    · rw [e, pk_us, pk_us]
    · rw [pk_un e, pk_un (by omega)]; exact h2 k hk
  · exact Eq.trans (h3) (pk_un (by omega)).symm
  · exact Eq.trans (h4 k hk) (pk_un (by omega)).symm
  · exact Eq.trans (h5 k hk) (pk_un (by omega)).symm
  · exact Eq.trans (h6 k hk) (pk_un (by omega)).symm
  · exact Eq.trans (h7 k hk) (pk_un (by omega)).symm
  · exact Eq.trans (h8 k hk hj) (pk_un (by omega)).symm
theorem TR_lv {u : TS} {s : Nat → Int32} {i : Nat} {x : Int32} (h : TR u s) (hi : i < 60) : TR (S_lv_ u (upd (S_lv u) i x)) (upd s (41 + i) x) := by
  obtain ⟨h0, h1, h2, h3, h4, h5, h6, h7, h8⟩ := h
  refine ⟨?_, fun k hk => ?_, fun k hk => ?_, ?_, fun k hk => ?_, fun k hk => ?_, fun k hk => ?_, fun k hk => ?_, fun k hk hj => ?_⟩
  · exact Eq.trans (h0) (pk_un (by omega)).symm
  · exact Eq.trans (h1 k hk) (pk_un (by omega)).symm
  · exact Eq.trans (h2 k hk) (pk_un (by omega)).symm
  · exact Eq.trans (h3) (pk_un (by omega)).symm
  · show upd (S_lv u) i x k = upd s (41 + i) x (41 + k)
    by_cases e : k = i
    · rw [e, pk_us, pk_us]
    · rw [pk_un e, pk_un (by omega)]; exact h4 k hk
  · exact Eq.trans (h5 k hk) (pk_un (by omega)).symm
  · exact Eq.trans (h6 k hk) (pk_un (by omega)).symm
  · exact Eq.trans (h7 k hk) (pk_un (by omega)).symm
  · exact Eq.trans (h8 k hk hj) (pk_un (by omega)).symm
theorem TR_fo {u : TS} {s : Nat → Int32} {i : Nat} {x : Int32} (h : TR u s) (hi : i < 60) : TR (S_fo_ u (upd (S_fo u) i x)) (upd s (101 + i) x) := by
  obtain ⟨h0, h1, h2, h3, h4, h5, h6, h7, h8⟩ := h
  refine ⟨?_, fun k hk => ?_, fun k hk => ?_, ?_, fun k hk => ?_, fun k hk => ?_, fun k hk => ?_, fun k hk => ?_, fun k hk hj => ?_⟩
  · exact Eq.trans (h0) (pk_un (by omega)).symm
  · exact Eq.trans (h1 k hk) (pk_un (by omega)).symm
  · exact Eq.trans (h2 k hk) (pk_un (by omega)).symm
  · exact Eq.trans (h3) (pk_un (by omega)).symm
  · exact Eq.trans (h4 k hk) (pk_un (by omega)).symm
  · show upd (S_fo u) i x k = upd s (101 + i) x (101 + k)
    by_cases e : k = i
    · rw [e, pk_us, pk_us]
    · rw [pk_un e, pk_un (by omega)]; exact h5 k hk
  · exact Eq.trans (h6 k hk) (pk_un (by omega)).symm
  · exact Eq.trans (h7 k hk) (pk_un (by omega)).symm
  · exact Eq.trans (h8 k hk hj) (pk_un (by omega)).symm
theorem TR_se {u : TS} {s : Nat → Int32} {i : Nat} {x : Int32} (h : TR u s) (hi : i < 60) : TR (S_se_ u (upd (S_se u) i x)) (upd s (161 + i) x) := by
  obtain ⟨h0, h1, h2, h3, h4, h5, h6, h7, h8⟩ := h
  refine ⟨?_, fun k hk => ?_, fun k hk => ?_, ?_, fun k hk => ?_, fun k hk => ?_, fun k hk => ?_, fun k hk => ?_, fun k hk hj => ?_⟩
  · exact Eq.trans (h0) (pk_un (by omega)).symm
  · exact Eq.trans (h1 k hk) (pk_un (by omega)).symm
  · exact Eq.trans (h2 k hk) (pk_un (by omega)).symm
  · exact Eq.trans (h3) (pk_un (by omega)).symm
  · exact Eq.trans (h4 k hk) (pk_un (by omega)).symm
  · exact Eq.trans (h5 k hk) (pk_un (by omega)).symm
  · show upd (S_se u) i x k = upd s (161 + i) x (161 + k)
    by_cases e : k = i
    · rw [e, pk_us, pk_us]
    · rw [pk_un e, pk_un (by omega)]; exact h6 k hk
  · exact Eq.trans (h7 k hk) (pk_un (by omega)).symm
  · exact Eq.trans (h8 k hk hj) (pk_un (by omega)).symm
theorem TR_li {u : TS} {s : Nat → Int32} {i : Nat} {x : Int32} (h : TR u s) (hi : i < 60) : TR (S_li_ u (upd (S_li u) i x)) (upd s (221 + i) x) := by
  obtain ⟨h0, h1, h2, h3, h4, h5, h6, h7, h8⟩ := h
  refine ⟨?_, fun k hk => ?_, fun k hk => ?_, ?_, fun k hk => ?_, fun k hk => ?_, fun k hk => ?_, fun k hk => ?_, fun k hk hj => ?_⟩
  · exact Eq.trans (h0) (pk_un (by omega)).symm
  · exact Eq.trans (h1 k hk) (pk_un (by omega)).symm
  · exact Eq.trans (h2 k hk) (pk_un (by omega)).symm
  · exact Eq.trans (h3) (pk_un (by omega)).symm
  · exact Eq.trans (h4 k hk) (pk_un (by omega)).symm
  · exact Eq.trans (h5 k hk) (pk_un (by omega)).symm
  · exact Eq.trans (h6 k hk) (pk_un (by omega)).symm
  · show upd (S_li u) i x k = upd s (221 + i) x (221 + k)
    by_cases e : k = i
    · rw [e, pk_us, pk_us]
    · rw [pk_un e, pk_un (by omega)]; exact h7 k hk
  · exact Eq.trans (h8 k hk hj) (pk_un (by omega)).symm
def JI (u : TS) (j : Nat) : Prop := 0 ≤ (S_jr u (4 * j)).toInt ∧ (S_jr u (4 * j)).toInt ≤ (S_jr u (4 * j + 3)).toInt ∧ (S_jr u (4 * j + 3)).toInt ≤ (S_jr u (4 * j + 1)).toInt ∧ (S_jr u (4 * j + 1)).toInt < (S_sl u).toInt ∧ rg (S_jr u (4 * j + 2)) (-9999) 9999
def TI (u : TS) : Prop := rg (S_sl u) 10 60 ∧ (rg (S_nu u 0) 1 20 ∧ rg (S_nu u 1) 0 99 ∧ rg (S_nu u 2) 1 5 ∧ (1 ≤ (S_nu u 3).toInt ∧ (S_nu u 3).toInt < (S_nu u 4).toInt ∧ (S_nu u 4).toInt < (S_nu u 5).toInt ∧ (S_nu u 5).toInt ≤ 2000) ∧ rg (S_nu u 6) 10 500 ∧ rg (S_nu u 7) 1 50) ∧ (∀ k, k < 60 → rg (S_lv u k) (-9999) 9999) ∧ (∀ k, k < 60 → rg (S_fo u k) 0 100) ∧ rg (S_jb u) 0 6 ∧ (∀ j : Nat, (j : Int) < (S_jb u).toInt → JI u j)
theorem TI.sl {u : TS} (h : TI u) : rg (S_sl u) 10 60 := h.1
theorem TI.nu {u : TS} (h : TI u) : rg (S_nu u 0) 1 20 ∧ rg (S_nu u 1) 0 99 ∧ rg (S_nu u 2) 1 5 ∧ (1 ≤ (S_nu u 3).toInt ∧ (S_nu u 3).toInt < (S_nu u 4).toInt ∧ (S_nu u 4).toInt < (S_nu u 5).toInt ∧ (S_nu u 5).toInt ≤ 2000) ∧ rg (S_nu u 6) 10 500 ∧ rg (S_nu u 7) 1 50 := h.2.1
theorem TI.lv {u : TS} (h : TI u) {k : Nat} (hk : k < 60) : rg (S_lv u k) (-9999) 9999 := h.2.2.1 k hk
theorem TI.fo {u : TS} (h : TI u) {k : Nat} (hk : k < 60) : rg (S_fo u k) 0 100 := h.2.2.2.1 k hk
theorem TI.jb {u : TS} (h : TI u) : rg (S_jb u) 0 6 := h.2.2.2.2.1
theorem TI.jr {u : TS} (h : TI u) {j : Nat} (hj : (j : Int) < (S_jb u).toInt) : JI u j := h.2.2.2.2.2 j hj
theorem TI_lv {u : TS} {i : Nat} {x : Int32} (h : TI u) (hx : rg x (-9999) 9999) : TI (S_lv_ u (upd (S_lv u) i x)) := by
  obtain ⟨h0, h1, h2, h3, h4, h5⟩ := h
  refine ⟨h0, h1, fun k hk => ?_, h3, h4, h5⟩
  show rg (upd (S_lv u) i x k) (-9999) 9999
  by_cases e : k = i
  · rw [e, pk_us]; exact hx
  · rw [pk_un e]; exact h2 k hk
theorem TI_fo {u : TS} {i : Nat} {x : Int32} (h : TI u) (hx : rg x 0 100) : TI (S_fo_ u (upd (S_fo u) i x)) := by
  obtain ⟨h0, h1, h2, h3, h4, h5⟩ := h
  refine ⟨h0, h1, h2, fun k hk => ?_, h4, h5⟩
  show rg (upd (S_fo u) i x k) 0 100
  by_cases e : k = i
  · rw [e, pk_us]; exact hx
  · rw [pk_un e]; exact h3 k hk
theorem TI_ac {u : TS} {f : Nat → Int32} (h : TI u) : TI (S_ac_ u f) := h
theorem TI_se {u : TS} {f : Nat → Int32} (h : TI u) : TI (S_se_ u f) := h
theorem TI_li {u : TS} {f : Nat → Int32} (h : TI u) : TI (S_li_ u f) := h
/-- the numbers of a track as natural ones -/
theorem TI.nat {u : TS} (h : TI u) : ∃ N K H A : Nat, S_sl u = nI N ∧ 10 ≤ N ∧ N ≤ 60 ∧ S_nu u 0 = nI K ∧ 1 ≤ K ∧ K ≤ 20 ∧ S_nu u 1 = nI H ∧ H ≤ 99 ∧ S_nu u 2 = nI A ∧ 1 ≤ A ∧ A ≤ 5 := by
  obtain ⟨⟨a1, a2⟩, ⟨⟨b1, b2⟩, ⟨c1, c2⟩, ⟨d1, d2⟩, -⟩, -⟩ := h
  obtain ⟨N, e1, e2, -⟩ := i_of (x := S_sl u) (by omega)
  obtain ⟨K, f1, f2, -⟩ := i_of (x := S_nu u 0) (by omega)
  obtain ⟨H, g1, g2, -⟩ := i_of (x := S_nu u 1) (by omega)
  obtain ⟨A, k1, k2, -⟩ := i_of (x := S_nu u 2) (by omega)
  exact ⟨N, K, H, A, e1, by omega, by omega, f1, by omega, by omega, g1, by omega, k1, by omega, by omega⟩
theorem e_within (fu : Nat) (v lo hi : Int32) : f_X4_isWithin fu v lo hi = some (decide (lo.toInt ≤ v.toInt ∧ v.toInt ≤ hi.toInt)) := by
  unfold f_X4_isWithin
  rw [jn_e]
  by_cases h1 : v < lo
  · rw [if_pos h1, decide_eq_false]
    rw [i_lt] at h1
    omega
  · rw [if_neg h1]
    by_cases h2 : hi < v
    · rw [if_pos h2, decide_eq_false]
      rw [i_lt] at h2
      omega
    · rw [if_neg h2, decide_eq_true]
      rw [i_lt] at h1 h2
      omega
def hs (n p : Int32) : Bool := decide ((0 : Int32).toInt ≤ p.toInt ∧ p.toInt ≤ (n - 1).toInt)
theorem e_has (fu : Nat) (u : TS) (p : Int32) : f_X1_has fu u p = some (hs (S_sl u) p) := by
  unfold f_X1_has
  simp only [nm_d, e_within, bd_s]
  rfl
theorem hs_t {N : Nat} {p : Int32} (h : hs (nI N) p = true) (h1 : 1 ≤ N) (h2 : N ≤ 1000) : ∃ j : Nat, p = nI j ∧ j < N := by
  unfold hs at h
  rw [decide_eq_true_eq, i_sub (by rw [n_ti (by omega)]; simp; omega) (by rw [n_ti (by omega)]; simp; omega), n_ti (by omega)] at h
  simp at h
  obtain ⟨j, e, e2, -⟩ := i_of (x := p) h.1
  exact ⟨j, e, by omega⟩
def lvb (v : Int32) : Bool := decide ((-9999 : Int32).toInt ≤ v.toInt ∧ v.toInt ≤ (9999 : Int32).toInt)
theorem e_isLevel (fu : Nat) (v : Int32) : f_X4_isLevel fu v = some (lvb v) := by
  unfold f_X4_isLevel
  rw [e_within]
  rfl
theorem lvb_t {v : Int32} (h : lvb v = true) : rg v (-9999) 9999 := by
  unfold lvb at h
  rw [decide_eq_true_eq] at h
  exact h
def fl (f g : Nat → Int32) (d k : Nat) : Nat → Int32 := fun j => if d ≤ j ∧ j < d + k then f (j - d) else g j
theorem fl_0 (f g : Nat → Int32) (d : Nat) : fl f g d 0 = g := by
  funext j
  unfold fl
  rw [if_neg (by omega)]
theorem fl_s (f g : Nat → Int32) (d k : Nat) : upd (fl f g d k) (d + k) (f k) = fl f g d (k + 1) := by
  funext j
  by_cases e : j = d + k
  · rw [e, pk_us]
    unfold fl
    rw [if_pos (by omega), Nat.add_sub_cancel_left]
  · rw [pk_un e]
    unfold fl
    by_cases h : d ≤ j ∧ j < d + k
    · rw [if_pos h, if_pos (by omega)]
    · rw [if_neg h, if_neg (by omega)]
theorem fl_in {f g : Nat → Int32} {d k j : Nat} (h : j < k) : fl f g d k (d + j) = f j := by
  unfold fl
  rw [if_pos (by omega), Nat.add_sub_cancel_left]
theorem fl_out {f g : Nat → Int32} {d k j : Nat} (h : j < d ∨ d + k ≤ j) : fl f g d k j = g j := by
  unfold fl
  rw [if_neg (by omega)]
theorem cp_loop {σ : Type} {F : (Int32 → σ → Option σ) → Int32 → σ → Option σ} (N : Nat) (st : Nat → σ) (hend : ∀ rec, F rec (nI N) (st N) = some (st N)) (hstep : ∀ rec k, k < N → F rec (nI k) (st k) = rec (nI (k + 1)) (st (k + 1))) : ∀ (n k : Nat), k ≤ N → N - k < n → lq_2 F n (nI k) (st k) = some (st N) := by
  intro n
  induction n with
  | zero => intro k h1 h2; omega
  | succ n ih =>
    intro k h1 h2
    show F (lq_2 F n) (nI k) (st k) = some (st N)
    rcases Nat.lt_or_ge k N with h | h
    · rw [hstep _ k h]
      exact ih (k + 1) (by omega) (by omega)
    · have e : k = N := by omega
      subst e
      exact hend _
theorem n_le' {a b : Nat} (ha : a < 2147483648) (hb : b < 2147483648) (h : a ≤ b) : nI a ≤ nI b := (n_le ha hb).mpr h
theorem n_nle {a b : Nat} (ha : a < 2147483648) (hb : b < 2147483648) (h : b < a) : ¬ nI a ≤ nI b := fun h2 => by
  have := (n_le ha hb).mp h2
  omega
def cpT (u v : TS) : TS := (S_sl v, S_jb v, va_cpy (S_nu v) (S_nu u) 0 0 8, va_cpy (S_lv v) (S_lv u) 0 0 60, va_cpy (S_fo v) (S_fo u) 0 0 60, va_cpy (S_se v) (S_se u) 0 0 60, va_cpy (S_li v) (S_li u) 0 0 60, va_cpy (S_jr v) (S_jr u) 0 0 24, va_cpy (S_ac v) (S_ac u) 0 0 7)
theorem rq_t {α : Type} {c : Bool} {k : Option α} (h : c = true) : rq c k = k := by rw [h]; rfl
theorem e_copyFrom (fu : Nat) (u v : TS) : f_X1_copyFrom fu u v = some (cpT u v) := by
  unfold f_X1_copyFrom
  simp only [nm_d]
  rw [rq_t (by decide), rq_t (by decide), rq_t (by decide), rq_t (by decide), rq_t (by decide), rq_t (by decide), rq_t (by decide)]
  rfl
theorem TR_cp {u v : TS} {s : Nat → Int32} (h : TR v s) : TR (cpT u v) s := by
  obtain ⟨h0, h1, h2, h3, h4, h5, h6, h7, h8⟩ := h
  refine ⟨h0, fun k hk => ?_, fun k hk => ?_, h3, fun k hk => ?_, fun k hk => ?_, fun k hk => ?_, fun k hk => ?_, fun k hk hj => ?_⟩
  · exact (sb_cpy0 hk).trans (h1 k hk)
  · exact (sb_cpy0 hk).trans (h2 k hk)
  · exact (sb_cpy0 hk).trans (h4 k hk)
  · exact (sb_cpy0 hk).trans (h5 k hk)
  · exact (sb_cpy0 hk).trans (h6 k hk)
  · exact (sb_cpy0 hk).trans (h7 k hk)
  · exact (sb_cpy0 hk).trans (h8 k hk hj)
theorem TI_cp {u v : TS} (h : TI v) : TI (cpT u v) := by
  obtain ⟨h0, h1, h2, h3, h4, h5⟩ := h
  refine ⟨h0, ?_, fun k hk => ?_, fun k hk => ?_, h4, fun j hj => ?_⟩
  · have e : ∀ k, k < 8 → S_nu (cpT u v) k = S_nu v k := fun k hk => sb_cpy0 hk
    rw [e 0 (by omega), e 1 (by omega), e 2 (by omega), e 3 (by omega), e 4 (by omega), e 5 (by omega), e 6 (by omega), e 7 (by omega)]
    exact h1
  · rw [show S_lv (cpT u v) k = S_lv v k from sb_cpy0 hk]
    exact h2 k hk
  · rw [show S_fo (cpT u v) k = S_fo v k from sb_cpy0 hk]
    exact h3 k hk
  · have hj6 : (j : Int) < (S_jb v).toInt := hj
    have h46 := h4.2
    have e : ∀ k, k < 24 → S_jr (cpT u v) k = S_jr v k := fun k hk => sb_cpy0 hk
    have hJ := h5 j hj
    unfold JI at hJ ⊢
    rw [e (4 * j) (by omega), e (4 * j + 1) (by omega), e (4 * j + 2) (by omega), e (4 * j + 3) (by omega)]
    exact hJ
theorem TR_cong {u : TS} {s s' : Nat → Int32} (h : TR u s) (e : ∀ k, k < 281 → s' k = s k) : TR u s' := by
  obtain ⟨h0, h1, h2, h3, h4, h5, h6, h7, h8⟩ := h
  refine ⟨?_, fun k hk => ?_, fun k hk => ?_, ?_, fun k hk => ?_, fun k hk => ?_, fun k hk => ?_, fun k hk => ?_, fun k hk hj => ?_⟩
  · rw [e _ (by omega)]; exact h0
  · rw [e _ (by omega)]; exact h1 k hk
  · rw [e _ (by omega)]; exact h2 k hk
  · rw [e _ (by omega)]; exact h3
  · rw [e _ (by omega)]; exact h4 k hk
  · rw [e _ (by omega)]; exact h5 k hk
  · rw [e _ (by omega)]; exact h6 k hk
  · rw [e _ (by omega)]; exact h7 k hk
  · rw [e _ (by omega)]; exact h8 k hk hj
def RW (r0 r1 r2 r3 r4 r5 : TS) : Nat → TS := fun j => match j with | 0 => r0 | 1 => r1 | 2 => r2 | 3 => r3 | 4 => r4 | _ => r5
def upR (w : Nat → TS) (q : Nat) (u : TS) : Nat → TS := fun j => if j = q then cpT (w j) u else w j
theorem rem6 {s : Nat} (h : s < 1000) : nI s - nI s / (6 : Int32) * (6 : Int32) = nI (s % 6) := pk_rem (d := 6) (by omega) (by omega) (by omega)
def svH (hi : TH) (a z : Nat) : TH := if z < 6 then H_sz_ hi (nI (z + 1)) else H_ol_ hi (nI ((a + 1) % 6))
theorem e_save {fu : Nat} {hi : TH} {r0 r1 r2 r3 r4 r5 now : TS} {a z : Nat} (ha : H_ol hi = nI a) (ha6 : a < 6) (hz : H_sz hi = nI z) (hz6 : z ≤ 6) :
    ∃ q0 q1 q2 q3 q4 q5, f_X0_save fu hi r0 r1 r2 r3 r4 r5 now = some (svH hi a z, q0, q1, q2, q3, q4, q5) ∧ ∀ j, j < 6 → RW q0 q1 q2 q3 q4 q5 j = upR (RW r0 r1 r2 r3 r4 r5) ((a + z) % 6) now j := by
  have fin : (if (6 : Int32) ≤ nI z then (some (H_ol_ hi (nI (a + 1) - nI (a + 1) / (6 : Int32) * (6 : Int32))) : Option TH) else some (H_sz_ hi (nI (z + 1)))) = some (svH hi a z) := by
    unfold svH
    by_cases h : z < 6
    · rw [if_neg (show ¬ (6 : Int32) ≤ nI z from n_nle (a := 6) (by omega) (by omega) h), if_pos h]
    · rw [if_pos (show (6 : Int32) ≤ nI z from n_le' (a := 6) (by omega) (by omega) (by omega)), if_neg h, rem6 (by omega)]
  have fin2 : ∀ (p0 p1 p2 p3 p4 p5 : TS), (if (6 : Int32) ≤ nI z then (some (H_ol_ hi (nI (a + 1) - nI (a + 1) / (6 : Int32) * (6 : Int32)), p0, p1, p2, p3, p4, p5) : Option (TH × TS × TS × TS × TS × TS × TS)) else some (H_sz_ hi (nI (z + 1)), p0, p1, p2, p3, p4, p5)) = some (svH hi a z, p0, p1, p2, p3, p4, p5) := by
    intro p0 p1 p2 p3 p4 p5
    by_cases h : (6 : Int32) ≤ nI z
    · rw [if_pos h] at fin ⊢
      rw [Option.some.inj fin]
    · rw [if_neg h] at fin ⊢
      rw [Option.some.inj fin]
  have hq : (a + z) % 6 < 6 := Nat.mod_lt _ (by omega)
  unfold f_X0_save
  simp only [nm_d, ha, hz, n_a, n_p1, e_copyFrom, bd_s]
  rw [rem6 (by omega), ix_n hq (by omega)]
  generalize (a + z) % 6 = q at hq ⊢
  match q, hq with
  | 0, _ =>
    rw [if_pos (by decide), fin2]
    exact ⟨_, _, _, _, _, _, rfl, fun j hj => by rcases (show j = 0 ∨ j = 1 ∨ j = 2 ∨ j = 3 ∨ j = 4 ∨ j = 5 by omega) with rfl | rfl | rfl | rfl | rfl | rfl <;> rfl⟩
  | 1, _ =>
    rw [if_neg (by decide), if_pos (by decide), fin2]
    exact ⟨_, _, _, _, _, _, rfl, fun j hj => by rcases (show j = 0 ∨ j = 1 ∨ j = 2 ∨ j = 3 ∨ j = 4 ∨ j = 5 by omega) with rfl | rfl | rfl | rfl | rfl | rfl <;> rfl⟩
  | 2, _ =>
    rw [if_neg (by decide), if_neg (by decide), if_pos (by decide), fin2]
    exact ⟨_, _, _, _, _, _, rfl, fun j hj => by rcases (show j = 0 ∨ j = 1 ∨ j = 2 ∨ j = 3 ∨ j = 4 ∨ j = 5 by omega) with rfl | rfl | rfl | rfl | rfl | rfl <;> rfl⟩
  | 3, _ =>
    rw [if_neg (by decide), if_neg (by decide), if_neg (by decide), if_pos (by decide), fin2]
    exact ⟨_, _, _, _, _, _, rfl, fun j hj => by rcases (show j = 0 ∨ j = 1 ∨ j = 2 ∨ j = 3 ∨ j = 4 ∨ j = 5 by omega) with rfl | rfl | rfl | rfl | rfl | rfl <;> rfl⟩
  | 4, _ =>
    rw [if_neg (by decide), if_neg (by decide), if_neg (by decide), if_neg (by decide), if_pos (by decide), fin2]
    exact ⟨_, _, _, _, _, _, rfl, fun j hj => by rcases (show j = 0 ∨ j = 1 ∨ j = 2 ∨ j = 3 ∨ j = 4 ∨ j = 5 by omega) with rfl | rfl | rfl | rfl | rfl | rfl <;> rfl⟩
  | 5, _ =>
    rw [if_neg (by decide), if_neg (by decide), if_neg (by decide), if_neg (by decide), if_neg (by decide), if_pos (by decide), fin2]
    exact ⟨_, _, _, _, _, _, rfl, fun j hj => by rcases (show j = 0 ∨ j = 1 ∨ j = 2 ∨ j = 3 ∨ j = 4 ∨ j = 5 by omega) with rfl | rfl | rfl | rfl | rfl | rfl <;> rfl⟩
theorem bt (b : Bool) : (¬ bI b = 0) ↔ b = true := by cases b <;> simp [bI]
theorem bf (b : Bool) : bI b = 0 ↔ b = false := by cases b <;> simp [bI]
theorem it_tt {α : Type} {i : Decidable (true = true)} {a b : α} : @ite α (true = true) i a b = a := if_pos rfl
theorem it_ff {α : Type} {i : Decidable (false = false)} {a b : α} : @ite α (false = false) i a b = a := if_pos rfl
theorem it_tf {α : Type} {i : Decidable (true = false)} {a b : α} : @ite α (true = false) i a b = b := if_neg (fun h => Bool.noConfusion h)
theorem it_ft {α : Type} {i : Decidable (false = true)} {a b : α} : @ite α (false = true) i a b = b := if_neg (fun h => Bool.noConfusion h)
def putT (u : TS) (i : Nat) (v : Int32) : TS := S_lv_ (S_ac_ u (upd (S_ac u) 6 (S_ac u 6 + (v - S_lv u i)))) (upd (S_lv u) i v)
theorem e_putLevel {fu : Nat} {u : TS} {i : Nat} {v : Int32} (hi : i < 60) : f_X1_putLevel fu u (nI i) v = some (putT u i v) := by
  unfold f_X1_putLevel
  simp only [nm_d]
  rw [ix_n hi (by omega), ix_n hi (by omega), n_cl (by omega)]
  rfl
theorem TI_put {u : TS} {i : Nat} {v : Int32} (h : TI u) (hv : rg v (-9999) 9999) : TI (putT u i v) := TI_lv (TI_ac h) hv
theorem cp_loop3 {A1 A2 A3 X : Type} {F : (A1 → A2 → A3 → Option X) → A1 → A2 → A3 → Option X} (N : Nat) (s1 : Nat → A1) (s2 : Nat → A2) (s3 : Nat → A3) (out : X) (hend : ∀ rec, F rec (s1 N) (s2 N) (s3 N) = some out) (hstep : ∀ rec k, k < N → F rec (s1 k) (s2 k) (s3 k) = rec (s1 (k + 1)) (s2 (k + 1)) (s3 (k + 1))) : ∀ (n k : Nat), k ≤ N → N - k < n → lq_3 F n (s1 k) (s2 k) (s3 k) = some out := by
  intro n
  induction n with
  | zero => intro k h1 h2; omega
  | succ n ih =>
    intro k h1 h2
    show F (lq_3 F n) (s1 k) (s2 k) (s3 k) = some out
    rcases Nat.lt_or_ge k N with h | h
    · rw [hstep _ k h]
      exact ih (k + 1) (by omega) (by omega)
    · have e : k = N := by omega
      subst e
      exact hend _
theorem cp_loop2 {A1 A2 X : Type} {F : (A1 → A2 → Option X) → A1 → A2 → Option X} (N : Nat) (s1 : Nat → A1) (s2 : Nat → A2) (out : X) (hend : ∀ rec, F rec (s1 N) (s2 N) = some out) (hstep : ∀ rec k, k < N → F rec (s1 k) (s2 k) = rec (s1 (k + 1)) (s2 (k + 1))) : ∀ (n k : Nat), k ≤ N → N - k < n → lq_2 F n (s1 k) (s2 k) = some out := by
  intro n
  induction n with
  | zero => intro k h1 h2; omega
  | succ n ih =>
    intro k h1 h2
    show F (lq_2 F n) (s1 k) (s2 k) = some out
    rcases Nat.lt_or_ge k N with h | h
    · rw [hstep _ k h]
      exact ih (k + 1) (by omega) (by omega)
    · have e : k = N := by omega
      subst e
      exact hend _
theorem e_fill {fu na : Nat} {u : Nat → Int32} {v : Int32} (hna : na ≤ 1000) (hfu : 2000 ≤ fu) : f_J7_fill_53178 fu na u v = some (fl (fun _ => v) u 0 na) := by
  unfold f_J7_fill_53178
  rw [nm_d]
  have h := cp_loop2 (F := lb_J7_fill_53178_5 fu v na (nI na)) na (fun k => nI k) (fun k => fl (fun _ => v) u 0 k) (fl (fun _ => v) u 0 na) (fun rec => by
    unfold lb_J7_fill_53178_5
    exact if_pos (n_le' (by omega) (by omega) (Nat.le_refl na))) (fun rec k hk => by
    unfold lb_J7_fill_53178_5
    rw [if_neg (n_nle (by omega) (by omega) hk), ix_n hk (by omega), nm_d, nm_d, n_p1, n_cl (by omega)]
    have e := fl_s (fun _ => v) u 0 k
    rw [Nat.zero_add] at e
    rw [← e]) fu 0 (by omega) (by omega)
  rw [fl_0] at h
  rw [show lf_J7_fill_53178_5 fu v na (Int32.ofNat na) fu (0 : Int32) u = _ from h]
  rfl
def mkT (u : TS) (n : Int32) : TS := (n, 0, S_nu u, fl (fun _ => 0) (S_lv u) 0 60, fl (fun _ => 0) (S_fo u) 0 60, fl (fun _ => 0) (S_se u) 0 60, fl (fun _ => 0) (S_li u) 0 60, S_jr u, fl (fun _ => 0) (S_ac u) 0 7)
theorem e_makeNew {fu : Nat} {u : TS} {n : Int32} (hfu : 2000 ≤ fu) : f_X1_makeNew fu u n = some (mkT u n) := by
  unfold f_X1_makeNew
  simp only [nm_d]
  rw [e_fill (by omega) hfu, bd_s, e_fill (by omega) hfu, bd_s, e_fill (by omega) hfu, bd_s, e_fill (by omega) hfu, bd_s, e_fill (by omega) hfu, bd_s]
  rfl
theorem fl_in0 {f g : Nat → Int32} {k j : Nat} (h : j < k) : fl f g 0 k j = f j := by
  have := fl_in (f := f) (g := g) (d := 0) h
  rw [Nat.zero_add] at this
  exact this
