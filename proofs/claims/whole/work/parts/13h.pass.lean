/-! one train -/
theorem upd_self (f : Nat → Int32) (k : Nat) : upd f k (f k) = f := by
  funext t
  by_cases c : t = k
  · rw [c, pk_us]
  · rw [pk_un c]
theorem fl_same {f g : Nat → Int32} {d k : Nat} (h : f k = g (d + k)) : fl f g d (k + 1) = fl f g d k := by
  rw [← fl_s, h]
  funext t
  by_cases c : t = d + k
  · rw [c, pk_us, fl_out (by omega)]
  · rw [pk_un c]
/-- bounds of the loads -/
theorem gl_rg {b : Nat → Bool} {N : Nat} {f0 : Nat → Int32} (hN : N ≤ 1000) (h0 : ∀ t, t < N → f0 t = l0 b t) : ∀ q : Nat, q ≤ N → ∀ t, t < N → 0 ≤ (gl b N f0 q t).toInt ∧ (gl b N f0 q t).toInt ≤ 2 + 2 * q
  | 0, _, t, ht => by
    show 0 ≤ (f0 t).toInt ∧ (f0 t).toInt ≤ _
    rw [h0 t ht]
    unfold l0
    by_cases c : b t = false
    · rw [if_pos c]
      decide
    · rw [if_neg c]
      decide
  | q + 1, hq, t, ht => by
    obtain ⟨h1, h2⟩ := gl_rg hN h0 q (by omega) t ht
    cases e : b q with
    | false =>
      rw [gl_f e]
      omega
    | true =>
      rw [gl_s e]
      have g1 : ∀ (x : Int32) (p : Prop) [Decidable p], 0 ≤ x.toInt → x.toInt ≤ 100000 → (x + if p then 1 else 0).toInt = x.toInt + if p then 1 else 0 := fun x p _ a1 a2 => by
        by_cases c : p
        · rw [if_pos c, if_pos c, i_add (by rw [z_1]; omega) (by rw [z_1]; omega), z_1]
        · rw [if_neg c, if_neg c, Int32.add_zero]
          omega
      have e1 := g1 (gl b N f0 q t) (t = wL b N q) h1 (by omega)
      have e2 := g1 (gl b N f0 q t + if t = wL b N q then 1 else 0) (t = wR b N q) (by rw [e1]; split <;> omega) (by rw [e1]; split <;> omega)
      rw [e2, e1]
      split <;> split <;> omega
/-- what a carrying one settles by -/
def shr (o : Int32) : Int32 := if o = 0 then 100 else if o = 1 then 70 else 40
def stY (p q l f o : Int32) : Int64 := (p * q).toInt64 * l.toInt64 * (100 + f).toInt64 * (shr o).toInt64 / 4000000
def stl (p q l f o v : Int32) : Int32 := if v - (-9999 : Int32) < (stY p q l f o).toInt32 then v - (-9999 : Int32) else (stY p q l f o).toInt32
theorem e_share (fu : Nat) (o : Int32) : f_X4_shareOf fu o = some (shr o) := by
  unfold f_X4_shareOf shr
  by_cases c : o = 0
  · rw [if_pos c, if_pos c]
  · rw [if_neg c, if_neg c]
    by_cases c2 : o = 1
    · rw [if_pos c2, if_pos c2]
    · rw [if_neg c2, if_neg c2]
def lst (o : Int32) : Int32 := if o = 0 then 0 else if o = 1 then 2 else 6
theorem e_lost (fu : Nat) (o : Int32) : f_X4_minutesLostBy fu o = some (lst o) := by
  unfold f_X4_minutesLostBy lst
  by_cases c : o = 0
  · rw [if_pos c, if_pos c]
  · rw [if_neg c, if_neg c]
    by_cases c2 : o = 1
    · rw [if_pos c2, if_pos c2]
    · rw [if_neg c2, if_neg c2]
theorem e_settlement {fu : Nat} {v : TV} {u : TS} {i : Nat} {p q : Int32} (hi : i < 60) : f_X4_settlement fu v u (nI i) (p * q) = some (stY p q (V_lo v i) (S_fo u i) (V_od v)).toInt32 := by
  unfold f_X4_settlement
  simp only [nm_d, e_share, bd_s]
  rw [ix_n hi (by omega), ix_n hi (by omega), n_cl (by omega)]
  rfl
theorem L_bm {z : Int} (h1 : -9223372036854775808 ≤ z) (h2 : z < 9223372036854775808) : z.bmod (2 ^ 64) = z := by
  rw [Int.bmod_eq_of_le (by omega) (by omega)]
theorem L_mul {x y : Int64} {a b : Int} (ha : x.toInt = a) (hb : y.toInt = b) (h1 : -9223372036854775808 ≤ a * b) (h2 : a * b < 9223372036854775808) : (x * y).toInt = a * b := by
  rw [Int64.toInt_mul, ha, hb, L_bm h1 h2]
theorem mul_b {a b A B : Int} (h1 : 0 ≤ a) (h2 : a ≤ A) (h3 : 0 ≤ b) (h4 : b ≤ B) : 0 ≤ a * b ∧ a * b ≤ A * B := by
  refine ⟨Int.mul_nonneg h1 h3, ?_⟩
  exact Int.mul_le_mul h2 h4 h3 (by omega)
theorem shr_rg (o : Int32) : 0 ≤ (shr o).toInt ∧ (shr o).toInt ≤ 100 := by
  unfold shr
  by_cases c : o = 0
  · rw [if_pos c]
    decide
  · rw [if_neg c]
    by_cases c2 : o = 1
    · rw [if_pos c2]
      decide
    · rw [if_neg c2]
      decide
/-- the settlement is an int that isn't negative -/
theorem stY_rg {p q l f o : Int32} (hp : rg p 1 200) (hq : rg q 1 30) (hl : rg l 0 1000) (hf : rg f 0 100) :
    0 ≤ (stY p q l f o).toInt ∧ (stY p q l f o).toInt ≤ 30000 ∧ (p * q).toInt64 = p.toInt64 * q.toInt64 := by
  obtain ⟨p1, p2⟩ := hp
  obtain ⟨q1, q2⟩ := hq
  obtain ⟨l1, l2⟩ := hl
  obtain ⟨f1, f2⟩ := hf
  obtain ⟨s1, s2⟩ := shr_rg o
  obtain ⟨w1, w2⟩ := mul_b (a := p.toInt) (b := q.toInt) (A := 200) (B := 30) (by omega) p2 (by omega) q2
  have ew : (p * q).toInt = p.toInt * q.toInt := i_mul (by omega) (by omega)
  have ef : (100 + f).toInt = 100 + f.toInt := i_add (show -2147483648 ≤ 100 + f.toInt by omega) (show 100 + f.toInt < 2147483648 by omega)
  have e1 : (p * q).toInt64.toInt = p.toInt * q.toInt := by rw [Int32.toInt_toInt64, ew]
  obtain ⟨x1, x2⟩ := mul_b (a := p.toInt * q.toInt) (b := l.toInt) (A := 200 * 30) (B := 1000) w1 w2 l1 l2
  have e2 : ((p * q).toInt64 * l.toInt64).toInt = p.toInt * q.toInt * l.toInt := L_mul e1 (Int32.toInt_toInt64 l) (by omega) (by omega)
  obtain ⟨y1, y2⟩ := mul_b (a := p.toInt * q.toInt * l.toInt) (b := 100 + f.toInt) (A := 200 * 30 * 1000) (B := 200) x1 x2 (by omega) (by omega)
  have e3 : ((p * q).toInt64 * l.toInt64 * (100 + f).toInt64).toInt = p.toInt * q.toInt * l.toInt * (100 + f.toInt) := L_mul e2 ((Int32.toInt_toInt64 _).trans ef) (by omega) (by omega)
  obtain ⟨z1, z2⟩ := mul_b (a := p.toInt * q.toInt * l.toInt * (100 + f.toInt)) (b := (shr o).toInt) (A := 200 * 30 * 1000 * 200) (B := 100) y1 y2 s1 s2
  have e4 : ((p * q).toInt64 * l.toInt64 * (100 + f).toInt64 * (shr o).toInt64).toInt = p.toInt * q.toInt * l.toInt * (100 + f.toInt) * (shr o).toInt := L_mul e3 (Int32.toInt_toInt64 _) (by omega) (by omega)
  generalize p.toInt * q.toInt * l.toInt * (100 + f.toInt) * (shr o).toInt = Z at e4 z1 z2
  have e5 : (stY p q l f o).toInt = Z / 4000000 := by
    unfold stY
    rw [Int64.toInt_div, e4, show (4000000 : Int64).toInt = 4000000 from rfl, Int.tdiv_eq_ediv_of_nonneg z1, L_bm (by omega) (by omega)]
  refine ⟨by omega, by omega, ?_⟩
  rw [← Int64.toInt_inj, e1]
  exact (L_mul (Int32.toInt_toInt64 p) (Int32.toInt_toInt64 q) (by omega) (by omega)).symm
/-- both ways to the settlement -/
theorem stl_eq {y : Int64} {v : Int32} (h0 : 0 ≤ y.toInt) (h1 : y.toInt ≤ 30000) (hv : rg v (-9999) 9999) :
    (if 0 ≤ lg_cmp y (v.toInt64 - (-9999 : Int64)) then (v.toInt64 - (-9999 : Int64)).toInt32 else y.toInt32) = (if v - (-9999 : Int32) < y.toInt32 then v - (-9999 : Int32) else y.toInt32) ∧ 0 ≤ (if v - (-9999 : Int32) < y.toInt32 then v - (-9999 : Int32) else y.toInt32).toInt ∧ (if v - (-9999 : Int32) < y.toInt32 then v - (-9999 : Int32) else y.toInt32).toInt ≤ v.toInt + 9999 := by
  obtain ⟨v1, v2⟩ := hv
  have ey : y.toInt32.toInt = y.toInt := by
    rw [Int64.toInt_toInt32, i_bm (by omega) (by omega)]
  have e1 : (v - (-9999 : Int32)).toInt = v.toInt + 9999 := by
    rw [i_sub (by rw [z_m]; omega) (by rw [z_m]; omega), z_m]
    omega
  have e2 : (v.toInt64 - (-9999 : Int64)).toInt = v.toInt + 9999 := by
    rw [Int64.toInt_sub, Int32.toInt_toInt64, show (-9999 : Int64).toInt = -9999 from rfl, L_bm (by omega) (by omega)]
    omega
  have e3 : (v.toInt64 - (-9999 : Int64)).toInt32 = v - (-9999 : Int32) := by
    rw [i_eq, Int64.toInt_toInt32, e2, e1, i_bm (by omega) (by omega)]
  rw [e3]
  by_cases c : v - (-9999 : Int32) < y.toInt32
  · have c2 : y > v.toInt64 - (-9999 : Int64) := by
      rw [i_lt, ey, e1] at c
      show v.toInt64 - (-9999 : Int64) < y
      rw [Int64.lt_iff_toInt_lt, e2]
      exact c
    rw [if_pos c]
    refine ⟨?_, by omega, by omega⟩
    unfold lg_cmp
    rw [if_pos c2, if_pos (by decide)]
  · have c2 : ¬ y > v.toInt64 - (-9999 : Int64) := by
      intro h
      have h : v.toInt64 - (-9999 : Int64) < y := h
      rw [Int64.lt_iff_toInt_lt, e2] at h
      rw [i_lt, ey, e1] at c
      exact c h
    rw [if_neg c]
    refine ⟨?_, by omega, by rw [i_lt, ey, e1] at c; omega⟩
    unfold lg_cmp
    rw [if_neg c2]
    by_cases c3 : y = v.toInt64 - (-9999 : Int64)
    · rw [if_pos c3, if_pos (by decide), ← e3, ← c3]
    · rw [if_neg c3, if_neg (by decide)]
