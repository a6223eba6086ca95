/-! one item: the class's roads and the reference's, stage by stage -/
def cV (fu : Nat) (u : TS) (b : Bool) (a z neg x : Int32) (y : TX) : Option (Bool × TX × TS) := if x < 0 then some (false, y, u) else bd (f_X3_expects fu y (59 : Int32)) fun (o : Bool × TX) => if ¬ bI o.1 = 0 then (if neg = 0 then bd (f_X3_put fu u b a z x) fun (o2 : TS) => some (true, o.2, o2) else bd (f_X3_put fu u b a z (-x)) fun (o2 : TS) => some (true, o.2, o2)) else some (false, o.2, u)
def cW (fu : Nat) (u : TS) (b : Bool) (a z neg : Int32) (y : TX) : Option (Bool × TX × TS) := if bI b = 0 then bd (f_X3_readNumber fu y (3 : Int32) (0 : Int32) (100 : Int32)) fun (o : Int32 × TX) => cV fu u b a z neg o.1 o.2 else bd (f_X3_readNumber fu y (4 : Int32) (0 : Int32) (9999 : Int32)) fun (o : Int32 × TX) => cV fu u b a z neg o.1 o.2
def cE (fu : Nat) (u : TS) (b : Bool) (a z : Int32) (y : TX) : Option (Bool × TX × TS) := if z < 0 then some (false, y, u) else bd (f_X3_expects fu y (61 : Int32)) fun (o : Bool × TX) => if ¬ bI o.1 = 0 then (if bI b = 0 then cW fu u b a z 0 o.2 else bd (f_X3_takes fu o.2 (45 : Int32)) fun (o2 : Bool × TX) => if bI o2.1 = 0 then cW fu u b a z 0 o2.2 else cW fu u b a z 1 o2.2) else some (false, o.2, u)
def cN (fu : Nat) (u : TS) (b : Bool) (y : TX) : Option (Bool × TX × TS) := bd (f_X3_readNumber fu y (2 : Int32) (0 : Int32) (S_sl u - (1 : Int32))) fun (o : Int32 × TX) => if 0 ≤ o.1 then (bd (f_X3_takes fu o.2 (45 : Int32)) fun (o2 : Bool × TX) => if bI o2.1 = 0 then cE fu u b o.1 o.1 o2.2 else bd (f_X3_readNumber fu o2.2 (2 : Int32) o.1 (S_sl u - (1 : Int32))) fun (o3 : Int32 × TX) => cE fu u b o.1 o3.1 o3.2) else some (false, o.2, u)
theorem c_item (fu : Nat) (y : TX) (u : TS) : f_X3_readItem fu y u = bd (f_X3_takes fu y (98 : Int32)) fun (o : Bool × TX) => if ¬ bI o.1 = 0 then cN fu u o.1 o.2 else bd (f_X3_expects fu o.2 (102 : Int32)) fun (o2 : Bool × TX) => if ¬ bI o2.1 = 0 then cN fu u o.1 o2.2 else some (false, o2.2, u) := rfl
def mP (fu : Nat) (k a z : Int32) (y : TM) (x : Int32) : Option (Bool × TM) := bd (f_X5_takes fu y (59 : Int32)) fun (o : Bool × TM) => if ¬ bI o.1 = 0 then (bd (lf_X5_readsItem_192 fu k z x fu a o.2) fun (w : TM) => some (true, w)) else some (false, o.2)
def mV (fu : Nat) (k a z neg : Int32) (o : Bool × TM) : Option (Bool × TM) := if ¬ bI o.1 = 0 then (if neg = 0 then mP fu k a z o.2 (M_nu o.2) else mP fu k a z o.2 (-(M_nu o.2))) else some (false, o.2)
def mW (fu : Nat) (k a z neg : Int32) (y : TM) : Option (Bool × TM) := if k = 0 then (if k = 0 then bd (f_X5_reads fu y (3 : Int32) (0 : Int32) (100 : Int32)) fun (o : Bool × TM) => mV fu k a z neg o else bd (f_X5_reads fu y (3 : Int32) (0 : Int32) (9999 : Int32)) fun (o : Bool × TM) => mV fu k a z neg o) else (if k = 0 then bd (f_X5_reads fu y (4 : Int32) (0 : Int32) (100 : Int32)) fun (o : Bool × TM) => mV fu k a z neg o else bd (f_X5_reads fu y (4 : Int32) (0 : Int32) (9999 : Int32)) fun (o : Bool × TM) => mV fu k a z neg o)
def mE (fu : Nat) (k a : Int32) (y : TM) : Option (Bool × TM) := bd (f_X5_takes fu y (61 : Int32)) fun (o : Bool × TM) => if ¬ bI o.1 = 0 then (if k = 0 then mW fu k a (M_nu y) 0 o.2 else bd (f_X5_takes fu o.2 (45 : Int32)) fun (o2 : Bool × TM) => if bI o2.1 = 0 then mW fu k a (M_nu y) 0 o2.2 else mW fu k a (M_nu y) 1 o2.2) else some (false, o.2)
def mN (fu : Nat) (k : Int32) (y : TM) : Option (Bool × TM) := bd (f_X5_reads fu (M_at_ y (M_at y + (1 : Int32))) (2 : Int32) (0 : Int32) (M_ss (M_at_ y (M_at y + (1 : Int32))) 0 - (1 : Int32))) fun (o : Bool × TM) => if ¬ bI o.1 = 0 then (bd (f_X5_takes fu o.2 (45 : Int32)) fun (o2 : Bool × TM) => if bI o2.1 = 0 then mE fu k (M_nu o.2) o2.2 else bd (f_X5_reads fu o2.2 (2 : Int32) (M_nu o.2) (M_ss o2.2 0 - (1 : Int32))) fun (o3 : Bool × TM) => if ¬ bI o3.1 = 0 then mE fu k (M_nu o.2) o3.2 else some (false, o3.2)) else some (false, o.2)
theorem m_item (fu : Nat) (y : TM) : f_X5_readsItem fu y = bd (f_X5_here fu y) fun (o : Int32 × TM) => if ¬ o.1 = (98 : Int32) then (if ¬ (0 : Int32) = 0 then mN fu 0 o.2 else bd (f_X5_here fu o.2) fun (o2 : Int32 × TM) => if o2.1 = (102 : Int32) then mN fu 0 o2.2 else some (false, o2.2)) else (if ¬ (1 : Int32) = 0 then mN fu 1 o.2 else bd (f_X5_here fu o.2) fun (o2 : Int32 × TM) => if o2.1 = (102 : Int32) then mN fu 1 o2.2 else some (false, o2.2)) := rfl
def RES (c : Nat → Int32) (n : Nat) (m : TM) (N p0 : Nat) (A : Option (Bool × TX × TS)) (B : Option (Bool × TM)) : Prop :=
  (∃ (e' : Int32) (p' : Nat) (u' : TS) (s' : Nat → Int32) (v' : Int32), A = some (true, tx c n e' p', u') ∧ B = some (true, mm m s' p' v') ∧ TR u' s' ∧ TI u' ∧ S_sl u' = nI N ∧ p0 ≤ p' ∧ p' ≤ n) ∨ ∃ (q p' : Nat) (u' : TS) (s' : Nat → Int32) (v' : Int32), A = some (false, tx c n (nI q) p', u') ∧ B = some (false, mm m s' q v')
/-- a value's range -/
def vrg (b : Bool) (x : Int32) : Prop := if b = true then rg x (-9999) 9999 else rg x 0 100
theorem s_put {fu : Nat} {b : Bool} {i j N p : Nat} {x v : Int32} {u : TS} {s : Nat → Int32} {m : TM} (hj : j < N) (hij : i ≤ j) (hN2 : N ≤ 60) (hx : vrg b x) (hT : TR u s) (hI : TI u) (hfu : 2000 ≤ fu) :
    ∃ u' s', f_X3_put fu u b (nI i) (nI j) x = some u' ∧ lf_X5_readsItem_192 fu (bI b) (nI j) x fu (nI i) (mm m s p v) = some (mm m s' p v) ∧ TR u' s' ∧ TI u' ∧ S_sl u' = S_sl u := by
  have key : ∀ (f k : Nat) (w : TS) (t : Nat → Int32), k ≤ j + 1 → j + 1 - k < f → TR w t → TI w → ∃ u' s', lq_2 (lb_X3_put_3 fu b (nI j) x) f (nI k) w = some u' ∧ lq_2 (lb_X5_readsItem_192 fu (bI b) (nI j) x) f (nI k) (mm m t p v) = some (mm m s' p v) ∧ TR u' s' ∧ TI u' ∧ S_sl u' = S_sl w := by
    intro f
    induction f with
    | zero => intro k w t h1 h2; omega
    | succ f ih =>
      intro k w t h1 h2 hT hI
      show ∃ u' s', lb_X3_put_3 fu b (nI j) x (lq_2 (lb_X3_put_3 fu b (nI j) x) f) (nI k) w = some u' ∧ lb_X5_readsItem_192 fu (bI b) (nI j) x (lq_2 (lb_X5_readsItem_192 fu (bI b) (nI j) x) f) (nI k) (mm m t p v) = some (mm m s' p v) ∧ TR u' s' ∧ TI u' ∧ S_sl u' = S_sl w
      generalize lq_2 (lb_X3_put_3 fu b (nI j) x) f = rc1 at ih ⊢
      generalize lq_2 (lb_X5_readsItem_192 fu (bI b) (nI j) x) f = rc2 at ih ⊢
      unfold lb_X3_put_3 lb_X5_readsItem_192
      simp only [nm_d, jn_e, n_p1, n_101]
      by_cases h : j < k
      · rw [if_pos ((n_lt (by omega) (by omega)).mpr h), if_pos ((n_lt (by omega) (by omega)).mpr h)]
        exact ⟨w, t, rfl, rfl, hT, hI, rfl⟩
      · rw [if_neg (fun e => h ((n_lt (by omega) (by omega)).mp e)), if_neg (fun e => h ((n_lt (by omega) (by omega)).mp e))]
        cases b with
        | false =>
          rw [if_pos (show bI false = 0 from rfl), if_pos (show bI false = 0 from rfl), ix_n (by omega) (by omega), ix_n (by omega) (by omega), n_cl (by omega), n_cl (by omega), mm_ss, mm_ss_]
          obtain ⟨u', s', k1, k2, k3, k4, k5⟩ := ih (k + 1) (S_fo_ w (upd (S_fo w) k x)) (upd t (101 + k) x) (by omega) (by omega) (TR_fo hT (by omega)) (TI_fo hI hx)
          exact ⟨u', s', k1, k2, k3, k4, k5⟩
        | true =>
          rw [if_neg (show ¬ bI true = 0 by decide), if_neg (show ¬ bI true = 0 by decide), e_putLevel (by omega), e_puts (m := mm m t p v) (by omega)]
          simp only [bd_s, mm_ss, mm_ss_]
          obtain ⟨u', s', k1, k2, k3, k4, k5⟩ := ih (k + 1) (putT w k x) (putS t k x) (by omega) (by omega) (TR_put hT (by omega)) (TI_put hI hx)
          exact ⟨u', s', k1, k2, k3, k4, k5⟩
  obtain ⟨u', s', k1, k2, k3, k4, k5⟩ := key fu i u s (by omega) (by omega) hT hI
  refine ⟨u', s', ?_, k2, k3, k4, k5⟩
  unfold f_X3_put
  rw [show lf_X3_put_3 fu b (nI j) x fu (nI i) u = _ from k1]
  rfl
theorem s_P {fu : Nat} {c : Nat → Int32} {n N p0 i j p : Nat} {m : TM} {b : Bool} {e x v : Int32} {u : TS} {s : Nat → Int32} (hX : HX c n m) (hp : p ≤ n) (h0 : p0 ≤ p) (hj : j < N) (hij : i ≤ j) (hN : S_sl u = nI N) (hN2 : N ≤ 60) (hx : vrg b x) (hT : TR u s) (hI : TI u) (hfu : 2000 ≤ fu) :
    RES c n m N p0 (bd (f_X3_expects fu (tx c n e p) (59 : Int32)) fun (o : Bool × TX) => if ¬ bI o.1 = 0 then (bd (f_X3_put fu u b (nI i) (nI j) x) fun (o2 : TS) => some (true, o.2, o2)) else some (false, o.2, u)) (mP fu (bI b) (nI i) (nI j) (mm m s p v) x) := by
  obtain ⟨r1, r2⟩ := tp_r (c := c) (w := 59) hp
  unfold mP
  rw [e_expects hX.1 hp hfu, e_takesM hX hp (by decide) hfu]
  simp only [bd_s]
  cases t : tb c n p 59 with
  | false =>
    rw [if_neg (show ¬ ¬ bI false = 0 by decide), if_neg (show ¬ ¬ bI false = 0 by decide), if_neg (show ¬ false = true by decide)]
    exact Or.inr ⟨tp c n p 59, tp c n p 59, u, s, v, rfl, rfl⟩
  | true =>
    rw [if_pos (show ¬ bI true = 0 by decide), if_pos (show ¬ bI true = 0 by decide)]
    obtain ⟨u', s', k1, k2, k3, k4, k5⟩ := s_put (fu := fu) (p := tp c n p 59) (v := v) (m := m) hj hij hN2 hx hT hI hfu
    rw [k1, k2]
    simp only [bd_s]
    exact Or.inl ⟨_, tp c n p 59, u', s', v, rfl, rfl, k3, k4, k5.trans hN, by omega, r2⟩
theorem i_neg {x : Int32} (h1 : 0 ≤ x.toInt) (h2 : x.toInt ≤ 9999) : (-x).toInt = -x.toInt := by
  rw [Int32.toInt_neg, i_bm (by omega) (by omega)]
theorem okN_t {c : Nat → Int32} {n d p : Nat} {lo hi : Int32} (hp : p ≤ n) (h : okN c n d p lo hi = true) : p + 1 ≤ (rd c n d (sk c n p) 0).1 ∧ (rd c n d (sk c n p) 0).1 ≤ n ∧ lo.toInt ≤ (rd c n d (sk c n p) 0).2.toInt ∧ (rd c n d (sk c n p) 0).2.toInt ≤ hi.toInt := by
  obtain ⟨r1, r2⟩ := sk_r (c := c) hp
  obtain ⟨q1, q2⟩ := rd_r (c := c) (n := n) d (sk c n p) 0 r2
  unfold okN at h
  rw [decide_eq_true_eq] at h
  exact ⟨by have := h.1; omega, q2, h.2.2⟩
theorem s_W {fu : Nat} {c : Nat → Int32} {n N p0 i j p : Nat} {m : TM} {b : Bool} {e v neg : Int32} {u : TS} {s : Nat → Int32} (hX : HX c n m) (hp : p ≤ n) (h0 : p0 ≤ p) (hj : j < N) (hij : i ≤ j) (hN : S_sl u = nI N) (hN2 : N ≤ 60) (hneg : neg = 0 ∨ (neg = 1 ∧ b = true)) (hT : TR u s) (hI : TI u) (hfu : 2000 ≤ fu) :
    RES c n m N p0 (cW fu u b (nI i) (nI j) neg (tx c n e p)) (mW fu (bI b) (nI i) (nI j) neg (mm m s p v)) := by
  have hn := hX.1
  unfold cW mW
  cases b with
  | false =>
    have hneg0 : neg = 0 := by
      rcases hneg with h | ⟨-, h⟩
      · exact h
      · exact absurd h (by decide)
    subst hneg0
    rw [if_pos (show bI false = 0 from rfl), if_pos (show bI false = 0 from rfl), if_pos (show bI false = 0 from rfl)]
    obtain ⟨v', em⟩ := e_readM (fu := fu) (s := s) (v := v) (dd := 3) (d := 3) (lo := 0) (hi := 100) hX rfl (by omega) (by omega) hp hfu
    rw [e_readC (dd := 3) (d := 3) hn rfl (by omega) (by omega) hp hfu, em]
    simp only [bd_s]
    unfold cV mV
    cases ok : okN c n 3 p 0 100 with
    | false =>
      rw [if_neg (show ¬ false = true by decide), if_neg (show ¬ false = true by decide)]
      dsimp only
      rw [if_pos m_neg, if_neg (show ¬ ¬ bI false = 0 by decide)]
      exact Or.inr ⟨sk c n p, _, u, s, v', rfl, rfl⟩
    | true =>
      obtain ⟨q1, q2, q3, q4⟩ := okN_t hp ok
      rw [if_pos (show true = true from rfl), if_pos (show true = true from rfl)]
      dsimp only
      generalize rd c n 3 (sk c n p) 0 = R at q1 q2 q3 q4 ⊢
      have q3 : 0 ≤ R.2.toInt := q3
      have q4 : R.2.toInt ≤ 100 := q4
      rw [if_neg (show ¬ R.2 < 0 by rw [i_lt, z_0]; omega), if_pos (show ¬ bI true = 0 by decide), if_pos (show (0 : Int32) = 0 from rfl)]
      simp only [if_true]
      exact s_P (e := e) (x := R.2) (v := R.2) hX q2 (by omega) hj hij hN hN2 (by unfold vrg rg; rw [if_neg (by decide)]; exact ⟨q3, q4⟩) hT hI hfu
  | true =>
    rw [if_neg (show ¬ bI true = 0 by decide), if_neg (show ¬ bI true = 0 by decide), if_neg (show ¬ bI true = 0 by decide)]
    obtain ⟨v', em⟩ := e_readM (fu := fu) (s := s) (v := v) (dd := 4) (d := 4) (lo := 0) (hi := 9999) hX rfl (by omega) (by omega) hp hfu
    rw [e_readC (dd := 4) (d := 4) hn rfl (by omega) (by omega) hp hfu, em]
    simp only [bd_s]
    unfold cV mV
    cases ok : okN c n 4 p 0 9999 with
    | false =>
      rw [if_neg (show ¬ false = true by decide), if_neg (show ¬ false = true by decide)]
      dsimp only
      rw [if_pos m_neg, if_neg (show ¬ ¬ bI false = 0 by decide)]
      exact Or.inr ⟨sk c n p, _, u, s, v', rfl, rfl⟩
    | true =>
      obtain ⟨q1, q2, q3, q4⟩ := okN_t hp ok
      rw [if_pos (show true = true from rfl), if_pos (show true = true from rfl)]
      dsimp only
      generalize rd c n 4 (sk c n p) 0 = R at q1 q2 q3 q4 ⊢
      have q3 : 0 ≤ R.2.toInt := q3
      have q4 : R.2.toInt ≤ 9999 := q4
      rw [if_neg (show ¬ R.2 < 0 by rw [i_lt, z_0]; omega), if_pos (show ¬ bI true = 0 by decide)]
      rcases hneg with h | ⟨h, -⟩
      · subst h
        rw [if_pos (show (0 : Int32) = 0 from rfl)]
        simp only [if_true]
        exact s_P (e := e) (x := R.2) (v := R.2) hX q2 (by omega) hj hij hN hN2 (by unfold vrg rg; rw [if_pos rfl]; exact ⟨by omega, q4⟩) hT hI hfu
      · subst h
        rw [if_neg (show ¬ (1 : Int32) = 0 by decide)]
        simp only [if_neg (show ¬ (1 : Int32) = 0 by decide)]
        exact s_P (e := e) (x := -R.2) (v := R.2) hX q2 (by omega) hj hij hN hN2 (by unfold vrg rg; rw [if_pos rfl, i_neg q3 q4]; omega) hT hI hfu
theorem s_E {fu : Nat} {c : Nat → Int32} {n N p0 i j p : Nat} {m : TM} {b : Bool} {e : Int32} {u : TS} {s : Nat → Int32} (hX : HX c n m) (hp : p ≤ n) (h0 : p0 ≤ p) (hj : j < N) (hij : i ≤ j) (hN : S_sl u = nI N) (hN2 : N ≤ 60) (hT : TR u s) (hI : TI u) (hfu : 2000 ≤ fu) :
    RES c n m N p0 (cE fu u b (nI i) (nI j) (tx c n e p)) (mE fu (bI b) (nI i) (mm m s p (nI j))) := by
  have hn := hX.1
  obtain ⟨r1, r2⟩ := tp_r (c := c) (w := 61) hp
  unfold cE mE
  rw [if_neg (n_nneg j (by omega)), e_expects hn hp hfu, e_takesM hX hp (by decide) hfu]
  simp only [bd_s]
  cases t : tb c n p 61 with
  | false =>
    rw [if_neg (show ¬ ¬ bI false = 0 by decide), if_neg (show ¬ ¬ bI false = 0 by decide), if_neg (show ¬ false = true by decide)]
    exact Or.inr ⟨tp c n p 61, tp c n p 61, u, s, nI j, rfl, rfl⟩
  | true =>
    rw [if_pos (show ¬ bI true = 0 by decide), if_pos (show ¬ bI true = 0 by decide), mm_nu]
    generalize tp c n p 61 = P at r1 r2 ⊢
    generalize (if true = true then e else nI P) = e1
    cases b with
    | false =>
      rw [if_pos (show bI false = 0 from rfl), if_pos (show bI false = 0 from rfl)]
      exact s_W (b := false) hX r2 (by omega) hj hij hN hN2 (Or.inl rfl) hT hI hfu
    | true =>
      obtain ⟨w1, w2⟩ := tp_r (c := c) (w := 45) r2
      rw [if_neg (show ¬ bI true = 0 by decide), if_neg (show ¬ bI true = 0 by decide), e_takesC hn r2 hfu, e_takesM hX r2 (by decide) hfu]
      simp only [bd_s]
      cases t2 : tb c n P 45 with
      | false =>
        rw [if_pos (show bI false = 0 from rfl), if_pos (show bI false = 0 from rfl)]
        exact s_W (b := true) hX w2 (by omega) hj hij hN hN2 (Or.inl rfl) hT hI hfu
      | true =>
        rw [if_neg (show ¬ bI true = 0 by decide), if_neg (show ¬ bI true = 0 by decide)]
        exact s_W (b := true) hX w2 (by omega) hj hij hN hN2 (Or.inr ⟨rfl, rfl⟩) hT hI hfu
theorem s_N {fu : Nat} {c : Nat → Int32} {n N p0 p : Nat} {m : TM} {b : Bool} {e v : Int32} {u : TS} {s : Nat → Int32} (hX : HX c n m) (hp : p + 1 ≤ n) (h0 : p0 ≤ p + 2) (hN : S_sl u = nI N) (hN1 : 10 ≤ N) (hN2 : N ≤ 60) (hT : TR u s) (hI : TI u) (hfu : 2000 ≤ fu) :
    RES c n m N p0 (cN fu u b (tx c n e (p + 1))) (mN fu (bI b) (mm m s p v)) := by
  have hn := hX.1
  have s0 : s 0 = nI N := hT.sl.symm.trans hN
  unfold cN mN
  rw [mm_at, n_p1, mm_at_, mm_ss, s0, hN]
  obtain ⟨v', em⟩ := e_readM (fu := fu) (s := s) (v := v) (dd := 2) (d := 2) (lo := 0) (hi := nI N - 1) hX rfl (by omega) (by omega) hp hfu
  rw [e_readC (dd := 2) (d := 2) hn rfl (by omega) (by omega) hp hfu, em]
  simp only [bd_s]
  cases ok : okN c n 2 (p + 1) 0 (nI N - 1) with
  | false =>
    rw [if_neg (show ¬ false = true by decide), if_neg (show ¬ false = true by decide)]
    dsimp only
    rw [if_neg m_nn, if_neg (show ¬ ¬ bI false = 0 by decide)]
    exact Or.inr ⟨sk c n (p + 1), _, u, s, v', rfl, rfl⟩
  | true =>
    obtain ⟨q1, q2, q3, q4⟩ := okN_t hp ok
    rw [if_pos (show true = true from rfl), if_pos (show true = true from rfl)]
    dsimp only
    generalize rd c n 2 (sk c n (p + 1)) 0 = R at q1 q2 q3 q4 ⊢
    have q3 : 0 ≤ R.2.toInt := q3
    rw [n_m1 (by omega), n_ti (by omega)] at q4
    obtain ⟨i, ei, ei2, -⟩ := i_of (x := R.2) q3
    obtain ⟨w1, w2⟩ := tp_r (c := c) (w := 45) q2
    rw [mm_nu, ei, if_pos (n_nn i (by omega)), if_pos (show ¬ bI true = 0 by decide), e_takesC hn q2 hfu, e_takesM hX q2 (by decide) hfu]
    simp only [bd_s]
    generalize tp c n R.1 45 = P at w1 w2 ⊢
    cases t2 : tb c n R.1 45 with
    | false =>
      rw [if_pos (show bI false = 0 from rfl), if_pos (show bI false = 0 from rfl)]
      exact s_E hX w2 (by omega) (by omega) (Nat.le_refl i) hN hN2 hT hI hfu
    | true =>
      rw [if_neg (show ¬ bI true = 0 by decide), if_neg (show ¬ bI true = 0 by decide), mm_ss, s0]
      obtain ⟨v2, em2⟩ := e_readM (fu := fu) (s := s) (v := nI i) (dd := 2) (d := 2) (lo := nI i) (hi := nI N - 1) hX rfl (by omega) (by omega) w2 hfu
      rw [e_readC (dd := 2) (d := 2) hn rfl (by omega) (by omega) w2 hfu, em2]
      simp only [bd_s]
      cases ok2 : okN c n 2 P (nI i) (nI N - 1) with
      | false =>
        rw [if_neg (show ¬ false = true by decide), if_neg (show ¬ false = true by decide)]
        dsimp only
        rw [if_neg (show ¬ ¬ bI false = 0 by decide)]
        unfold cE
        rw [if_pos m_neg]
        exact Or.inr ⟨sk c n P, _, u, s, v2, rfl, rfl⟩
      | true =>
        obtain ⟨g1, g2, g3, g4⟩ := okN_t w2 ok2
        rw [if_pos (show true = true from rfl), if_pos (show true = true from rfl)]
        dsimp only
        generalize rd c n 2 (sk c n P) 0 = R2 at g1 g2 g3 g4 ⊢
        rw [n_ti (by omega)] at g3
        rw [n_m1 (by omega), n_ti (by omega)] at g4
        obtain ⟨j, ej, ej2, -⟩ := i_of (x := R2.2) (by omega)
        rw [if_pos (show ¬ bI true = 0 by decide), ej]
        exact s_E hX g2 (by omega) (by omega) (by omega) hN hN2 hT hI hfu
theorem s_item {fu : Nat} {c : Nat → Int32} {n N p : Nat} {m : TM} {e v : Int32} {u : TS} {s : Nat → Int32} (hX : HX c n m) (hp : p ≤ n) (hN : S_sl u = nI N) (hN1 : 10 ≤ N) (hN2 : N ≤ 60) (hT : TR u s) (hI : TI u) (hfu : 2000 ≤ fu) :
    RES c n m N (p + 2) (f_X3_readItem fu (tx c n e p) u) (f_X5_readsItem fu (mm m s p v)) := by
  have hn := hX.1
  obtain ⟨r1, r2⟩ := sk_r (c := c) hp
  rw [c_item, m_item, e_takesC hn hp hfu, e_here hX hp hfu]
  simp only [bd_s]
  by_cases h : sk c n p < n ∧ c (sk c n p) = 98
  · have t : tb c n p 98 = true := decide_eq_true h
    have ep : tp c n p 98 = sk c n p + 1 := if_pos t
    rw [t, ep, if_pos (show ¬ bI true = 0 by decide), if_pos h.1, if_neg (show ¬ ¬ c (sk c n p) = 98 from fun x => x h.2), if_pos (show ¬ (1 : Int32) = 0 by decide)]
    exact s_N (b := true) hX (by omega) (by omega) hN hN1 hN2 hT hI hfu
  · have t : tb c n p 98 = false := decide_eq_false h
    have ep : tp c n p 98 = sk c n p := if_neg (by rw [t]; decide)
    have ne : ¬ (if sk c n p < n then c (sk c n p) else (-1 : Int32)) = 98 := by
      by_cases h1 : sk c n p < n
      · rw [if_pos h1]
        exact fun x => h ⟨h1, x⟩
      · rw [if_neg h1]
        decide
    obtain ⟨k1, k2⟩ := sk_r (c := c) r2
    rw [t, ep, if_neg (show ¬ ¬ bI false = 0 by decide), if_pos ne, if_neg (show ¬ ¬ True from fun x => x trivial), e_expects hn r2 hfu, e_here hX r2 hfu]
    simp only [bd_s]
    by_cases h2 : sk c n (sk c n p) < n ∧ c (sk c n (sk c n p)) = 102
    · have t2 : tb c n (sk c n p) 102 = true := decide_eq_true h2
      have ep2 : tp c n (sk c n p) 102 = sk c n (sk c n p) + 1 := if_pos t2
      rw [t2, ep2, if_pos (show ¬ bI true = 0 by decide), if_pos h2.1, if_pos h2.2]
      exact s_N (b := false) hX (by omega) (by omega) hN hN1 hN2 hT hI hfu
    · have t2 : tb c n (sk c n p) 102 = false := decide_eq_false h2
      have ep2 : tp c n (sk c n p) 102 = sk c n (sk c n p) := if_neg (by rw [t2]; decide)
      have ne2 : ¬ (if sk c n (sk c n p) < n then c (sk c n (sk c n p)) else (-1 : Int32)) = 102 := by
        by_cases h1 : sk c n (sk c n p) < n
        · rw [if_pos h1]
          exact fun x => h2 ⟨h1, x⟩
        · rw [if_neg h1]
          decide
      rw [t2, ep2, if_neg (show ¬ ¬ bI false = 0 by decide), if_neg ne2, if_neg (show ¬ false = true by decide)]
      exact Or.inr ⟨sk c n (sk c n p), sk c n (sk c n p), u, s, v, rfl, rfl⟩
