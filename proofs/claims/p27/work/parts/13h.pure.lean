theorem upd_self (f : Nat → Int32) (k : Nat) : upd f k (f k) = f := by
  funext t
  by_cases c : t = k
  · rw [c, pk_us]
  · rw [pk_un c]
theorem fl_same {f g : Nat → Int32} {d k : Nat} (h : f k = g (d + k)) : fl f g d (k + 1) = fl f g d k := by
  rw [← fl_s, h]
  funext t
  by_cases c : t = d + k
  · rw [c, pk_us, fl_out (by omega)]
  · rw [pk_un c]
/-- bounds of the loads -/
theorem gl_rg {b : Nat → Bool} {N : Nat} {f0 : Nat → Int32} (hN : N ≤ 1000) (h0 : ∀ t, t < N → f0 t = l0 b t) : ∀ q : Nat, q ≤ N → ∀ t, t < N → 0 ≤ (gl b N f0 q t).toInt ∧ (gl b N f0 q t).toInt ≤ 2 + 2 * q
  | 0, _, t, ht => by
    show 0 ≤ (f0 t).toInt ∧ (f0 t).toInt ≤ _
    rw [h0 t ht]
    unfold l0
    by_cases c : b t = false
    · rw [if_pos c]
      decide
    · rw [if_neg c]
      decide
  | q + 1, hq, t, ht => by
    obtain ⟨h1, h2⟩ := gl_rg hN h0 q (by omega) t ht
    cases e : b q with
    | false =>
      rw [gl_f e]
      omega
    | true =>
      rw [gl_s e]
      have g1 : ∀ (x : Int32) (p : Prop) [Decidable p], 0 ≤ x.toInt → x.toInt ≤ 100000 → (x + if p then 1 else 0).toInt = x.toInt + if p then 1 else 0 := fun x p _ a1 a2 => by
        by_cases c : p
        · rw [if_pos c, if_pos c, i_add (by rw [z_1]; omega) (by rw [z_1]; omega), z_1]
        · rw [if_neg c, if_neg c, Int32.add_zero]
          omega
      have e1 := g1 (gl b N f0 q t) (t = wL b N q) h1 (by omega)
      have e2 := g1 (gl b N f0 q t + if t = wL b N q then 1 else 0) (t = wR b N q) (by rw [e1]; split <;> omega) (by rw [e1]; split <;> omega)
      rw [e2, e1]
      split <;> split <;> omega
/-- what a carrying one settles by -/
def shr (o : Int32) : Int32 := if o = 0 then 100 else if o = 1 then 70 else 40
def stY (p q l f o : Int32) : Int64 := (p * q).toInt64 * l.toInt64 * (100 + f).toInt64 * (shr o).toInt64 / 4000000
def stl (p q l f o v : Int32) : Int32 := if v - (-9999 : Int32) < (stY p q l f o).toInt32 then v - (-9999 : Int32) else (stY p q l f o).toInt32
theorem e_share (fu : Nat) (o : Int32) : f_X4_shareOf fu o = some (shr o) := by
  unfold f_X4_shareOf shr
  by_cases c : o = 0
  · rw [if_pos c, if_pos c]
  · rw [if_neg c, if_neg c]
    by_cases c2 : o = 1
    · rw [if_pos c2, if_pos c2]
    · rw [if_neg c2, if_neg c2]
def lst (o : Int32) : Int32 := if o = 0 then 0 else if o = 1 then 2 else 6
theorem e_lost (fu : Nat) (o : Int32) : f_X4_minutesLostBy fu o = some (lst o) := by
  unfold f_X4_minutesLostBy lst
  by_cases c : o = 0
  · rw [if_pos c, if_pos c]
  · rw [if_neg c, if_neg c]
    by_cases c2 : o = 1
    · rw [if_pos c2, if_pos c2]
    · rw [if_neg c2, if_neg c2]
theorem e_settlement {fu : Nat} {v : TV} {u : TS} {i : Nat} {p q : Int32} (hi : i < 60) : f_X4_settlement fu v u (nI i) (p * q) = some (stY p q (V_lo v i) (S_fo u i) (V_od v)).toInt32 := by
  unfold f_X4_settlement
  simp only [nm_d, e_share, bd_s]
  rw [ix_n hi (by omega), ix_n hi (by omega), n_cl (by omega)]
  rfl
theorem L_bm {z : Int} (h1 : -9223372036854775808 ≤ z) (h2 : z < 9223372036854775808) : z.bmod (2 ^ 64) = z := by
  rw [Int.bmod_eq_of_le (by omega) (by omega)]
theorem L_mul {x y : Int64} {a b : Int} (ha : x.toInt = a) (hb : y.toInt = b) (h1 : -9223372036854775808 ≤ a * b) (h2 : a * b < 9223372036854775808) : (x * y).toInt = a * b := by
  rw [Int64.toInt_mul, ha, hb, L_bm h1 h2]
theorem mul_b {a b A B : Int} (h1 : 0 ≤ a) (h2 : a ≤ A) (h3 : 0 ≤ b) (h4 : b ≤ B) : 0 ≤ a * b ∧ a * b ≤ A * B := by
  refine ⟨Int.mul_nonneg h1 h3, ?_⟩
  exact Int.mul_le_mul h2 h4 h3 (by omega)
theorem shr_rg (o : Int32) : 0 ≤ (shr o).toInt ∧ (shr o).toInt ≤ 100 := by
  unfold shr
  by_cases c : o = 0
  · rw [if_pos c]
    decide
  · rw [if_neg c]
    by_cases c2 : o = 1
    · rw [if_pos c2]
      decide
    · rw [if_neg c2]
      decide
/-- the settlement is an int that isn't negative -/
theorem stY_rg {p q l f o : Int32} (hp : rg p 1 200) (hq : rg q 1 30) (hl : rg l 0 1000) (hf : rg f 0 100) :
    0 ≤ (stY p q l f o).toInt ∧ (stY p q l f o).toInt ≤ 30000 ∧ (p * q).toInt64 = p.toInt64 * q.toInt64 := by
  obtain ⟨p1, p2⟩ := hp
  obtain ⟨q1, q2⟩ := hq
  obtain ⟨l1, l2⟩ := hl
  obtain ⟨f1, f2⟩ := hf
  obtain ⟨s1, s2⟩ := shr_rg o
  obtain ⟨w1, w2⟩ := mul_b (a := p.toInt) (b := q.toInt) (A := 200) (B := 30) (by omega) p2 (by omega) q2
  have ew : (p * q).toInt = p.toInt * q.toInt := i_mul (by omega) (by omega)
  have ef : (100 + f).toInt = 100 + f.toInt := i_add (show -2147483648 ≤ 100 + f.toInt by omega) (show 100 + f.toInt < 2147483648 by omega)
  have e1 : (p * q).toInt64.toInt = p.toInt * q.toInt := by rw [Int32.toInt_toInt64, ew]
  obtain ⟨x1, x2⟩ := mul_b (a := p.toInt * q.toInt) (b := l.toInt) (A := 200 * 30) (B := 1000) w1 w2 l1 l2
  have e2 : ((p * q).toInt64 * l.toInt64).toInt = p.toInt * q.toInt * l.toInt := L_mul e1 (Int32.toInt_toInt64 l) (by omega) (by omega)
  obtain ⟨y1, y2⟩ := mul_b (a := p.toInt * q.toInt * l.toInt) (b := 100 + f.toInt) (A := 200 * 30 * 1000) (B := 200) x1 x2 (by omega) (by omega)
  have e3 : ((p * q).toInt64 * l.toInt64 * (100 + f).toInt64).toInt = p.toInt * q.toInt * l.toInt * (100 + f.toInt) := L_mul e2 ((Int32.toInt_toInt64 _).trans ef) (by omega) (by omega)
  obtain ⟨z1, z2⟩ := mul_b (a := p.toInt * q.toInt * l.toInt * (100 + f.toInt)) (b := (shr o).toInt) (A := 200 * 30 * 1000 * 200) (B := 100) y1 y2 s1 s2
  have e4 : ((p * q).toInt64 * l.toInt64 * (100 + f).toInt64 * (shr o).toInt64).toInt = p.toInt * q.toInt * l.toInt * (100 + f.toInt) * (shr o).toInt := L_mul e3 (Int32.toInt_toInt64 _) (by omega) (by omega)
  generalize p.toInt * q.toInt * l.toInt * (100 + f.toInt) * (shr o).toInt = Z at e4 z1 z2
  have e5 : (stY p q l f o).toInt = Z / 4000000 := by
    unfold stY
    rw [Int64.toInt_div, e4, show (4000000 : Int64).toInt = 4000000 from rfl, Int.tdiv_eq_ediv_of_nonneg z1, L_bm (by omega) (by omega)]
  refine ⟨by omega, by omega, ?_⟩
  rw [← Int64.toInt_inj, e1]
  exact (L_mul (Int32.toInt_toInt64 p) (Int32.toInt_toInt64 q) (by omega) (by omega)).symm
/-- both ways to the settlement -/
theorem stl_eq {y : Int64} {v : Int32} (h0 : 0 ≤ y.toInt) (h1 : y.toInt ≤ 30000) (hv : rg v (-9999) 9999) :
    (if 0 ≤ lg_cmp y (v.toInt64 - (-9999 : Int64)) then (v.toInt64 - (-9999 : Int64)).toInt32 else y.toInt32) = (if v - (-9999 : Int32) < y.toInt32 then v - (-9999 : Int32) else y.toInt32) ∧ 0 ≤ (if v - (-9999 : Int32) < y.toInt32 then v - (-9999 : Int32) else y.toInt32).toInt ∧ (if v - (-9999 : Int32) < y.toInt32 then v - (-9999 : Int32) else y.toInt32).toInt ≤ v.toInt + 9999 := by
  obtain ⟨v1, v2⟩ := hv
  have ey : y.toInt32.toInt = y.toInt := by
    rw [Int64.toInt_toInt32, i_bm (by omega) (by omega)]
  have e1 : (v - (-9999 : Int32)).toInt = v.toInt + 9999 := by
    rw [i_sub (by rw [z_m]; omega) (by rw [z_m]; omega), z_m]
    omega
  have e2 : (v.toInt64 - (-9999 : Int64)).toInt = v.toInt + 9999 := by
    rw [Int64.toInt_sub, Int32.toInt_toInt64, show (-9999 : Int64).toInt = -9999 from rfl, L_bm (by omega) (by omega)]
    omega
  have e3 : (v.toInt64 - (-9999 : Int64)).toInt32 = v - (-9999 : Int32) := by
    rw [i_eq, Int64.toInt_toInt32, e2, e1, i_bm (by omega) (by omega)]
  rw [e3]
  by_cases c : v - (-9999 : Int32) < y.toInt32
  · have c2 : y > v.toInt64 - (-9999 : Int64) := by
      rw [i_lt, ey, e1] at c
      show v.toInt64 - (-9999 : Int64) < y
      rw [Int64.lt_iff_toInt_lt, e2]
      exact c
    rw [if_pos c]
    refine ⟨?_, by omega, by omega⟩
    unfold lg_cmp
    rw [if_pos c2, if_pos (by decide)]
  · have c2 : ¬ y > v.toInt64 - (-9999 : Int64) := by
      intro h
      have h : v.toInt64 - (-9999 : Int64) < y := h
      rw [Int64.lt_iff_toInt_lt, e2] at h
      rw [i_lt, ey, e1] at c
      exact c h
    rw [if_neg c]
    refine ⟨?_, by omega, by rw [i_lt, ey, e1] at c; omega⟩
    unfold lg_cmp
    rw [if_neg c2]
    by_cases c3 : y = v.toInt64 - (-9999 : Int64)
    · rw [if_pos c3, if_pos (by decide), ← e3, ← c3]
    · rw [if_neg c3, if_neg (by decide)]
def LK (v : TV) (u : TS) (N K A : Nat) (g : Nat → Int32) : Prop := (∀ t, t < N → isR u N K t (V_he v t).toInt) ∧ (∀ t, t < N → V_ha v t = bI (hgB u g t)) ∧ V_od v = od u (wf g N A N).2 ∧ (∀ t, t < N → isR u N K t (g t).toInt)
theorem LK_of {v : TV} {u : TS} {N K A : Nat} {f g : Nat → Int32} (hf : ∀ t, t < N → isR u N K t (f t).toInt) (hg1 : ∀ t, t < N → isR u N K t (g t).toInt) : LK (lk v u N A f) u N K A g := by
  have efg := ra_eq hf hg1
  refine ⟨hf, fun t ht => ?_, ?_, hg1⟩
  · show fl (hg u f) (V_ha v) 0 N t = _
    rw [fl_in0 ht, hg_bI, hgB_c (efg t ht)]
  · show od u (wf f N A N).2 = _
    rw [wf_c efg N (Nat.le_refl N)]
def pF (u : TS) (b : Nat → Bool) (t : Nat) : Int32 := if b t = false then S_fo u t else if S_fo u t + 1 < 100 then S_fo u t + 1 else 100
def pS (u : TS) (L : Nat → Int32) (p q o : Int32) (t : Nat) : Int32 := stl p q (L t) (S_fo u t) o (S_lv u t)
def pL (u : TS) (b : Nat → Bool) (L : Nat → Int32) (p q o : Int32) (t : Nat) : Int32 := if b t = false then S_lv u t - pS u L p q o t else S_lv u t
def pE (u : TS) (b : Nat → Bool) (L : Nat → Int32) (p q o : Int32) (t : Nat) : Int32 := if b t = false then S_se u t + pS u L p q o t else S_se u t
def pA (u : TS) (b : Nat → Bool) (L : Nat → Int32) (p q o : Int32) : Nat → Int32
  | 0 => S_ac u 0
  | k + 1 => if b k = false then pA u b L p q o k + pS u L p q o k else pA u b L p q o k
def pU (u : TS) (b : Nat → Bool) (L : Nat → Int32) (p q o : Int32) (k : Nat) : TS := S_ac_ (S_se_ (S_lv_ (S_fo_ u (fl (pF u b) (S_fo u) 0 k)) (fl (pL u b L p q o) (S_lv u) 0 k)) (fl (pE u b L p q o) (S_se u) 0 k)) (upd (S_ac u) 0 (pA u b L p q o k))
theorem e_settle {fu : Nat} {u : TS} {i : Nat} {x lv se : Int32} (hi : i < 60) (hl : S_lv u i = lv) (hs1 : S_se u i = se) :
    f_X1_settle fu u (nI i) x = some (S_ac_ (S_se_ (S_lv_ u (upd (S_lv u) i (lv - if lv - (-9999 : Int32) < x then lv - (-9999 : Int32) else x))) (upd (S_se u) i (se + if lv - (-9999 : Int32) < x then lv - (-9999 : Int32) else x))) (upd (S_ac u) 0 (S_ac u 0 + if lv - (-9999 : Int32) < x then lv - (-9999 : Int32) else x))) := by
  unfold f_X1_settle
  simp only [nm_d]
  rw [ix_n hi (by omega), ix_n hi (by omega), ix_n hi (by omega), ix_n hi (by omega), ix_n hi (by omega), n_cl (by omega), hl, ← hs1]
  rfl
theorem e_foul1 {fu : Nat} {u : TS} {i : Nat} {fo : Int32} (hi : i < 60) (hf : S_fo u i = fo) : f_X1_foul fu u (nI i) (1 : Int32) = some (S_fo_ u (upd (S_fo u) i (if fo + 1 < 100 then fo + 1 else 100))) := by
  unfold f_X1_foul
  simp only [nm_d]
  rw [ix_n hi (by omega), ix_n hi (by omega), n_cl (by omega), hf]
theorem upd_upd (f : Nat → Int32) (k : Nat) (x y : Int32) : upd (upd f k x) k y = upd f k y := by
  funext t
  by_cases c : t = k
  · rw [c, pk_us, pk_us]
  · rw [pk_un c, pk_un c, pk_un c]
theorem c_pass {fu : Nat} {u : TS} {v : TV} {N : Nat} {b : Nat → Bool} {L : Nat → Int32} {p q : Int32} (hN : S_sl u = nI N) (hN2 : N ≤ 60) (hv : ∀ t, t < N → V_lo v t = L t) (hb : ∀ t, t < N → V_ha v t = bI (b t)) (hfu : 2000 ≤ fu) :
    lf_X4_passTrain_12 fu p q v fu (0 : Int32) u = some (pU u b L p q (V_od v) N) := by
  have h := cp_loop2 (F := lb_X4_passTrain_12 fu p q v) N (fun k => nI k) (fun k => pU u b L p q (V_od v) k) (pU u b L p q (V_od v) N) (fun rec => by
    unfold lb_X4_passTrain_12
    rw [nm_d, show S_sl (pU u b L p q (V_od v) N) = nI N from hN, if_pos (n_le' (by omega) (by omega) (Nat.le_refl N))]) (fun rec k hk => by
    unfold lb_X4_passTrain_12
    rw [nm_d, show S_sl (pU u b L p q (V_od v) k) = nI N from hN, if_neg (n_nle (by omega) (by omega) hk), ix_n (by omega) (by omega), n_cl (by omega), hb k hk]
    simp only [nm_d, jn_e, n_p1]
    have f0 : S_fo (pU u b L p q (V_od v) k) k = S_fo u k := fl_out (by omega)
    have l1 : S_lv (pU u b L p q (V_od v) k) k = S_lv u k := fl_out (by omega)
    have s1 : S_se (pU u b L p q (V_od v) k) k = S_se u k := fl_out (by omega)
    cases e : b k with
    | false =>
      rw [if_pos (show bI false = 0 from rfl), e_settlement (by omega), bd_s, f0, hv k hk, e_settle (by omega) l1 s1, bd_s]
      have e1 : fl (pF u b) (S_fo u) 0 k = fl (pF u b) (S_fo u) 0 (k + 1) := (fl_same (by rw [Nat.zero_add]; exact if_pos e)).symm
      have e2 : upd (fl (pL u b L p q (V_od v)) (S_lv u) 0 k) k (S_lv u k - pS u L p q (V_od v) k) = fl (pL u b L p q (V_od v)) (S_lv u) 0 (k + 1) := by
        rw [← fl_s0, show pL u b L p q (V_od v) k = S_lv u k - pS u L p q (V_od v) k from if_pos e]
      have e3 : upd (fl (pE u b L p q (V_od v)) (S_se u) 0 k) k (S_se u k + pS u L p q (V_od v) k) = fl (pE u b L p q (V_od v)) (S_se u) 0 (k + 1) := by
        rw [← fl_s0, show pE u b L p q (V_od v) k = S_se u k + pS u L p q (V_od v) k from if_pos e]
      have e4 : upd (upd (S_ac u) 0 (pA u b L p q (V_od v) k)) 0 (upd (S_ac u) 0 (pA u b L p q (V_od v) k) 0 + pS u L p q (V_od v) k) = upd (S_ac u) 0 (pA u b L p q (V_od v) (k + 1)) := by
        rw [upd_upd, pk_us, show pA u b L p q (V_od v) (k + 1) = pA u b L p q (V_od v) k + pS u L p q (V_od v) k from if_pos e]
      show rec (nI (k + 1)) (S_ac_ (S_se_ (S_lv_ (S_fo_ u (fl (pF u b) (S_fo u) 0 k)) (upd (fl (pL u b L p q (V_od v)) (S_lv u) 0 k) k (S_lv u k - pS u L p q (V_od v) k))) (upd (fl (pE u b L p q (V_od v)) (S_se u) 0 k) k (S_se u k + pS u L p q (V_od v) k))) (upd (upd (S_ac u) 0 (pA u b L p q (V_od v) k)) 0 (upd (S_ac u) 0 (pA u b L p q (V_od v) k) 0 + pS u L p q (V_od v) k))) = _
      rw [e1, e2, e3, e4]
      rfl
    | true =>
      rw [if_neg (show ¬ bI true = 0 by decide), e_foul1 (by omega) f0, bd_s]
      have ne : ¬ b k = false := by rw [e]; decide
      have e1 : upd (fl (pF u b) (S_fo u) 0 k) k (if S_fo u k + 1 < 100 then S_fo u k + 1 else 100) = fl (pF u b) (S_fo u) 0 (k + 1) := by
        rw [← fl_s0, show pF u b k = (if S_fo u k + 1 < 100 then S_fo u k + 1 else 100) from if_neg ne]
      have e2 : fl (pL u b L p q (V_od v)) (S_lv u) 0 k = fl (pL u b L p q (V_od v)) (S_lv u) 0 (k + 1) := (fl_same (by rw [Nat.zero_add]; exact if_neg ne)).symm
      have e3 : fl (pE u b L p q (V_od v)) (S_se u) 0 k = fl (pE u b L p q (V_od v)) (S_se u) 0 (k + 1) := (fl_same (by rw [Nat.zero_add]; exact if_neg ne)).symm
      have e4 : pA u b L p q (V_od v) k = pA u b L p q (V_od v) (k + 1) := (if_neg ne).symm
      show rec (nI (k + 1)) (S_ac_ (S_se_ (S_lv_ (S_fo_ u (upd (fl (pF u b) (S_fo u) 0 k) k (if S_fo u k + 1 < 100 then S_fo u k + 1 else 100))) (fl (pL u b L p q (V_od v)) (S_lv u) 0 k)) (fl (pE u b L p q (V_od v)) (S_se u) 0 k)) (upd (S_ac u) 0 (pA u b L p q (V_od v) k))) = _
      rw [e1, e2, e3, e4]
      rfl) fu 0 (by omega) (by omega)
  have z : pU u b L p q (V_od v) 0 = u := by
    unfold pU
    rw [fl_0, fl_0, fl_0, show pA u b L p q (V_od v) 0 = S_ac u 0 from rfl, upd_self]
    rfl
  have h2 : lq_2 (lb_X4_passTrain_12 fu p q v) fu (nI 0) (pU u b L p q (V_od v) 0) = some (pU u b L p q (V_od v) N) := h
  rw [z] at h2
  exact h2
theorem TR_ac2 {u : TS} {s : Nat → Int32} {i : Nat} {x : Int32} (h : TR u s) (hi : i < 7) : TR (S_ac_ u (upd (S_ac u) i (S_ac u i + x))) (upd s (9 + i) (s (9 + i) + x)) := by
  rw [← h.ac hi]
  exact TR_ac h hi
theorem TI_pass {u : TS} {b : Nat → Bool} {L : Nat → Int32} {p q o : Int32} {N : Nat} (h : TI u) (hN2 : N ≤ 60) (hL : ∀ k, k < N → rg (L k) 0 1000) (hp : rg p 1 200) (hq : rg q 1 30) : TI (pU u b L p q o N) := by
  obtain ⟨h0, h1, h2, h3, h4, h5⟩ := id h
  refine ⟨h0, h1, fun k hk => ?_, fun k hk => ?_, h4, h5⟩
  · show rg (fl (pL u b L p q o) (S_lv u) 0 N k) (-9999) 9999
    by_cases c : k < N
    · rw [fl_in0 c]
      unfold pL
      by_cases e : b k = false
      · rw [if_pos e]
        obtain ⟨y1, y2, y3⟩ := stY_rg (o := o) hp hq (hL k c) (h3 k hk)
        obtain ⟨-, z1, z2⟩ := stl_eq y1 y2 (h2 k hk)
        have z1 : 0 ≤ (pS u L p q o k).toInt := z1
        have z2 : (pS u L p q o k).toInt ≤ (S_lv u k).toInt + 9999 := z2
        obtain ⟨l1, l2⟩ := h2 k hk
        unfold rg
        rw [i_sub (by omega) (by omega)]
        omega
      · rw [if_neg e]
        exact h2 k hk
    · rw [fl_out (by omega)]
      exact h2 k hk
  · show rg (fl (pF u b) (S_fo u) 0 N k) 0 100
    by_cases c : k < N
    · rw [fl_in0 c]
      unfold pF
      by_cases e : b k = false
      · rw [if_pos e]
        exact h3 k hk
      · rw [if_neg e]
        obtain ⟨f1, f2⟩ := h3 k hk
        have e1 : (S_fo u k + 1).toInt = (S_fo u k).toInt + 1 := i_add (show -2147483648 ≤ (S_fo u k).toInt + 1 by omega) (show (S_fo u k).toInt + 1 < 2147483648 by omega)
        unfold rg
        by_cases c2 : S_fo u k + 1 < 100
        · rw [if_pos c2]
          rw [i_lt, show (100 : Int32).toInt = 100 from rfl] at c2
          omega
        · rw [if_neg c2, show (100 : Int32).toInt = 100 from rfl]
          omega
    · rw [fl_out (by omega)]
      exact h3 k hk
def ac3 (z : TS) (a w : Int32) : TS := S_ac_ z (upd (upd (upd (S_ac z) 2 (S_ac z 2 + a)) 4 (upd (S_ac z) 2 (S_ac z 2 + a) 4 + 1)) 5 (upd (upd (S_ac z) 2 (S_ac z 2 + a)) 4 (upd (S_ac z) 2 (S_ac z 2 + a) 4 + 1) 5 + w))
theorem jn_shr {X : Type} (K : Int32 → X) (o : Int32) : jn K (fun (K2 : Int32 → X) => if ¬ o = 0 then (if ¬ o = (1 : Int32) then K2 ((40 : Int32)) else K2 ((70 : Int32))) else K2 ((100 : Int32))) = K (shr o) := by
  rw [jn_e]
  unfold shr
  by_cases c : o = 0
  · rw [if_neg (fun e => e c), if_pos c]
  · rw [if_pos c, if_neg c]
    by_cases c2 : o = 1
    · rw [if_neg (fun e => e c2), if_pos c2]
    · rw [if_pos c2, if_neg c2]
theorem jn_lst {X : Type} (K : Int32 → X) (o : Int32) : jn K (fun (K2 : Int32 → X) => if ¬ o = 0 then (if ¬ o = (1 : Int32) then K2 ((6 : Int32)) else K2 ((2 : Int32))) else K2 ((0 : Int32))) = K (lst o) := by
  rw [jn_e]
  unfold lst
  by_cases c : o = 0
  · rw [if_neg (fun e => e c), if_pos c]
  · rw [if_pos c, if_neg c]
    by_cases c2 : o = 1
    · rw [if_neg (fun e => e c2), if_pos c2]
    · rw [if_pos c2, if_neg c2]
theorem od_3 (u : TS) (x : Int32) : od u x = 3 ∨ od u x < 3 := by
  unfold od
  by_cases h1 : S_nu u 3 < x
  · rw [if_pos h1]
    by_cases h2 : S_nu u 4 < x
    · rw [if_pos h2]
      by_cases h3 : S_nu u 5 < x
      · rw [if_pos h3]
        exact Or.inl rfl
      · rw [if_neg h3]
        exact Or.inr (by decide)
    · rw [if_neg h2]
      exact Or.inr (by decide)
  · rw [if_neg h1]
    exact Or.inr (by decide)
theorem e_isTrain (fu : Nat) (p q : Int32) : f_X4_isTrain fu p q = some (decide ((1 : Int32).toInt ≤ p.toInt ∧ p.toInt ≤ (200 : Int32).toInt) && decide ((1 : Int32).toInt ≤ q.toInt ∧ q.toInt ≤ (30 : Int32).toInt)) := by
  unfold f_X4_isTrain
  simp only [e_within, bd_s, jn_e]
  cases decide ((1 : Int32).toInt ≤ p.toInt ∧ p.toInt ≤ (200 : Int32).toInt) <;> cases decide ((1 : Int32).toInt ≤ q.toInt ∧ q.toInt ≤ (30 : Int32).toInt) <;> rfl
theorem cpT_nu {u v : TS} {k : Nat} (h : k < 8) : S_nu (cpT u v) k = S_nu v k := sb_cpy0 h
