theorem e_keptMask {fu : Nat} {kp : Nat → Int32} {k0 k1 : Nat} (h0 : k0 ≤ 1) (h1 : k1 ≤ 1) (e0 : kp 0 = nI k0) (e1 : kp 1 = nI k1) (hfu : 2000 ≤ fu) : f_X4_keptMask fu kp = some (nI (k0 + 2 * k1)) := by
  have s0 : ∀ rec : Int32 → Int32 → Option Int32, lb_X4_keptMask_4 fu kp rec 0 0 = rec (nI k0) 1 := by
    intro rec
    unfold lb_X4_keptMask_4
    rw [if_neg (by decide), ix_v (by decide) (by decide)]
    simp only [nm_d, jn_e]
    rw [show (0 : Int32).toNatClampNeg = 0 from rfl, e0]
    rcases (show k0 = 0 ∨ k0 = 1 by omega) with rfl | rfl
    · rw [if_pos (show nI 0 = (0 : Int32) from rfl)]; rfl
    · rw [if_neg (by decide)]; rfl
  have s1 : ∀ rec : Int32 → Int32 → Option Int32, lb_X4_keptMask_4 fu kp rec (nI k0) 1 = rec (nI (k0 + 2 * k1)) 2 := by
    intro rec
    unfold lb_X4_keptMask_4
    rw [if_neg (by decide), ix_v (by decide) (by decide)]
    simp only [nm_d, jn_e]
    rw [show (1 : Int32).toNatClampNeg = 1 from rfl, e1]
    rcases (show (k0 = 0 ∨ k0 = 1) ∧ (k1 = 0 ∨ k1 = 1) by omega) with ⟨rfl | rfl, rfl | rfl⟩
    · rw [if_pos (show nI 0 = (0 : Int32) from rfl)]; rfl
    · rw [if_neg (by decide)]; rfl
    · rw [if_pos (show nI 0 = (0 : Int32) from rfl)]; rfl
    · rw [if_neg (by decide)]; rfl
  have s2 : ∀ (rec : Int32 → Int32 → Option Int32) (x : Int32), lb_X4_keptMask_4 fu kp rec x 2 = some x := by
    intro rec x
    unfold lb_X4_keptMask_4
    rw [if_pos (by decide)]
  have key : ∀ n : Nat, lq_2 (lb_X4_keptMask_4 fu kp) (n + 3) 0 0 = some (nI (k0 + 2 * k1)) := by
    intro n
    show lb_X4_keptMask_4 fu kp (lq_2 (lb_X4_keptMask_4 fu kp) (n + 2)) 0 0 = _
    rw [s0]
    show lb_X4_keptMask_4 fu kp (lq_2 (lb_X4_keptMask_4 fu kp) (n + 1)) _ 1 = _
    rw [s1]
    show lb_X4_keptMask_4 fu kp (lq_2 (lb_X4_keptMask_4 fu kp) n) _ 2 = _
    rw [s2]
  have k2 := key (fu - 3)
  rw [show fu - 3 + 3 = fu by omega] at k2
  unfold f_X4_keptMask
  rw [show lf_X4_keptMask_4 fu kp fu (0 : Int32) (0 : Int32) = _ from k2]
  rfl
/-- the nearest one that carries, to the left and to the right; -1 -/
def nL (b : Nat → Bool) : Nat → Int32
  | 0 => -1
  | k + 1 => if b k = false then nI k else nL b k
def nR (b : Nat → Bool) : Nat → Nat → Int32
  | 0, _ => -1
  | d + 1, i => if b i = false then nI i else nR b d (i + 1)
theorem nL_c (b : Nat → Bool) : ∀ k : Nat, (∃ j, j < k ∧ nL b k = nI j ∧ b j = false ∧ ∀ t, j < t → t < k → b t = true) ∨ (nL b k = -1 ∧ ∀ t, t < k → b t = true)
  | 0 => Or.inr ⟨rfl, fun t h => by omega⟩
  | k + 1 => by
    cases e : b k with
    | false =>
      refine Or.inl ⟨k, by omega, ?_, e, fun t h1 h2 => by omega⟩
      show (if b k = false then nI k else nL b k) = nI k
      rw [if_pos e]
    | true =>
      have e2 : nL b (k + 1) = nL b k := by
        show (if b k = false then nI k else nL b k) = nL b k
        rw [if_neg (by rw [e]; decide)]
      rw [e2]
      rcases nL_c b k with ⟨j, h1, h2, h3, h4⟩ | ⟨h1, h2⟩
      · refine Or.inl ⟨j, by omega, h2, h3, fun t g1 g2 => ?_⟩
        by_cases c : t = k
        · rw [c, e]
        · exact h4 t g1 (by omega)
      · refine Or.inr ⟨h1, fun t g => ?_⟩
        by_cases c : t = k
        · rw [c, e]
        · exact h2 t (by omega)
theorem nR_c (b : Nat → Bool) : ∀ d i : Nat, (∃ j, i ≤ j ∧ j < i + d ∧ nR b d i = nI j ∧ b j = false ∧ ∀ t, i ≤ t → t < j → b t = true) ∨ (nR b d i = -1 ∧ ∀ t, i ≤ t → t < i + d → b t = true)
  | 0, i => Or.inr ⟨rfl, fun t h1 h2 => by omega⟩
  | d + 1, i => by
    cases e : b i with
    | false =>
      refine Or.inl ⟨i, by omega, by omega, ?_, e, fun t h1 h2 => by omega⟩
      show (if b i = false then nI i else nR b d (i + 1)) = nI i
      rw [if_pos e]
    | true =>
      have e2 : nR b (d + 1) i = nR b d (i + 1) := by
        show (if b i = false then nI i else nR b d (i + 1)) = nR b d (i + 1)
        rw [if_neg (by rw [e]; decide)]
      rw [e2]
      rcases nR_c b d (i + 1) with ⟨j, h1, h2, h3, h4, h5⟩ | ⟨h1, h2⟩
      · refine Or.inl ⟨j, by omega, by omega, h3, h4, fun t g1 g2 => ?_⟩
        by_cases c : t = i
        · rw [c, e]
        · exact h5 t (by omega) g2
      · refine Or.inr ⟨h1, fun t g1 g2 => ?_⟩
        by_cases c : t = i
        · rw [c, e]
        · exact h2 t (by omega) (by omega)
theorem n_nn (j : Nat) (h : j < 2147483648) : (0 : Int32) ≤ nI j := by
  rw [i_le, z_0, n_ti h]
  omega
theorem m_nn : ¬ (0 : Int32) ≤ (-1 : Int32) := by decide
/-- where a hanging one hands its load -/
def wL (b : Nat → Bool) (N k : Nat) : Nat := (if 0 ≤ nL b k then nL b k else nR b (N - (k + 1)) (k + 1)).toNatClampNeg
def wR (b : Nat → Bool) (N k : Nat) : Nat := (if 0 ≤ nR b (N - (k + 1)) (k + 1) then nR b (N - (k + 1)) (k + 1) else nL b k).toNatClampNeg
/-- where they lie: both among those that carry -/
theorem w_in {b : Nat → Bool} {N k c : Nat} (hN : N ≤ 1000) (hk : k < N) (hb : b k = true) (hc : c < N) (hbc : b c = false) :
    ∃ x y : Nat, x < N ∧ y < N ∧ (if 0 ≤ nL b k then nL b k else nR b (N - (k + 1)) (k + 1)) = nI x ∧ (if 0 ≤ nR b (N - (k + 1)) (k + 1) then nR b (N - (k + 1)) (k + 1) else nL b k) = nI y ∧ wL b N k = x ∧ wR b N k = y := by
  have hck : c ≠ k := fun e => by rw [e, hb] at hbc; exact absurd hbc (by decide)
  unfold wL wR
  rcases nL_c b k with ⟨j, h1, h2, h3, h4⟩ | ⟨h1, h2⟩
  · rw [h2, if_pos (n_nn j (by omega))]
    rcases nR_c b (N - (k + 1)) (k + 1) with ⟨i, g1, g2, g3, g4, g5⟩ | ⟨g1, g2⟩
    · rw [g3, if_pos (n_nn i (by omega))]
      exact ⟨j, i, by omega, by omega, rfl, rfl, n_cl (by omega), n_cl (by omega)⟩
    · rw [g1, if_neg m_nn]
      exact ⟨j, j, by omega, by omega, rfl, rfl, n_cl (by omega), n_cl (by omega)⟩
  · rw [h1, if_neg m_nn]
    rcases nR_c b (N - (k + 1)) (k + 1) with ⟨i, g1, g2, g3, g4, g5⟩ | ⟨g1, g2⟩
    · rw [g3, if_pos (n_nn i (by omega))]
      exact ⟨i, i, by omega, by omega, rfl, rfl, n_cl (by omega), n_cl (by omega)⟩
    · exfalso
      have : b c = true := by
        by_cases e : c < k
        · exact h2 c e
        · exact g2 c (by omega) (by omega)
      rw [this] at hbc
      exact absurd hbc (by decide)
/-- the loads when the first q have handed theirs on -/
def gl (b : Nat → Bool) (N : Nat) (f0 : Nat → Int32) : Nat → Nat → Int32
  | 0 => f0
  | q + 1 => if b q = false then gl b N f0 q else upd (upd (gl b N f0 q) (wL b N q) (gl b N f0 q (wL b N q) + 1)) (wR b N q) (upd (gl b N f0 q) (wL b N q) (gl b N f0 q (wL b N q) + 1) (wR b N q) + 1)
def l0 (b : Nat → Bool) (k : Nat) : Int32 := if b k = false then 2 else 0
theorem hs_lt {N i : Nat} (h : i < N) (h2 : N ≤ 1000) : hs (nI N) (nI i) = true := by
  unfold hs
  rw [decide_eq_true_eq, n_m1 (by omega), n_ti (by omega), n_ti (by omega), z_0]
  omega
theorem hs_ge {N i : Nat} (h : N ≤ i) (h1 : 1 ≤ N) (h2 : i ≤ 1000) : hs (nI N) (nI i) = false := by
  unfold hs
  rw [decide_eq_false_iff_not, n_m1 (by omega), n_ti (by omega), n_ti (by omega), z_0]
  omega
theorem hs_m {n : Int32} : hs n (-1) = false := by
  unfold hs
  rw [decide_eq_false_iff_not]
  intro e
  exact absurd e.1 (by decide)
theorem n_nneg (j : Nat) (h : j < 2147483648) : ¬ nI j < (0 : Int32) := by
  rw [i_lt, z_0, n_ti h]
  omega
theorem m_neg : (-1 : Int32) < 0 := by decide
theorem e_hand1 {fu : Nat} {v : TV} {u : TS} {a i : Nat} {c : Int32} (ha : a < 60) (hi : i < 60) : f_X2_handOn fu v u (nI a) (nI i) c = some (V_lo_ v (upd (upd (V_lo v) a (V_lo v a + c)) i (upd (V_lo v) a (V_lo v a + c) i + c))) := by
  unfold f_X2_handOn
  simp only [jn_e, nm_d, if_neg (n_nneg a (by omega)), if_neg (n_nneg i (by omega))]
  rw [ix_n ha (by omega), ix_n ha (by omega), ix_n hi (by omega), ix_n hi (by omega), n_cl (by omega), n_cl (by omega)]
  rfl
theorem e_hand2 {fu : Nat} {v : TV} {u : TS} {i : Nat} {c : Int32} (hi : i < 60) : f_X2_handOn fu v u (-1 : Int32) (nI i) c = some (V_lo_ v (upd (V_lo v) i (V_lo v i + 2 * c))) := by
  unfold f_X2_handOn
  simp only [jn_e, nm_d, if_pos m_neg, if_neg (n_nneg i (by omega))]
  rw [ix_n hi (by omega), ix_n hi (by omega), n_cl (by omega)]
theorem e_hand3 {fu : Nat} {v : TV} {u : TS} {a : Nat} {c : Int32} (ha : a < 60) : f_X2_handOn fu v u (nI a) (-1 : Int32) c = some (V_lo_ v (upd (V_lo v) a (V_lo v a + 2 * c))) := by
  unfold f_X2_handOn
  simp only [jn_e, nm_d, if_pos m_neg, if_neg (n_nneg a (by omega))]
  rw [ix_n ha (by omega), ix_n ha (by omega), n_cl (by omega)]
theorem nL_run {b : Nat → Bool} {q : Nat} : ∀ c : Nat, (∀ t, q ≤ t → t < q + c → b t = true) → nL b (q + c) = nL b q
  | 0, _ => rfl
  | c + 1, h => by
    show (if b (q + c) = false then nI (q + c) else nL b (q + c)) = nL b q
    rw [if_neg (by rw [h (q + c) (by omega) (by omega)]; decide)]
    exact nL_run c (fun t h1 h2 => h t h1 (by omega))
theorem nR_run {b : Nat → Bool} {d : Nat} : ∀ (c i : Nat), (∀ t, i ≤ t → t < i + c → b t = true) → nR b (c + d) i = nR b d (i + c)
  | 0, i, _ => by rw [Nat.zero_add]; rfl
  | c + 1, i, h => by
    rw [show c + 1 + d = (c + d) + 1 by omega]
    show (if b i = false then nI i else nR b (c + d) (i + 1)) = nR b d (i + (c + 1))
    rw [if_neg (by rw [h i (by omega) (by omega)]; decide), nR_run c (i + 1) (fun t h1 h2 => h t (by omega) (by omega)), show i + 1 + c = i + (c + 1) by omega]
theorem nL_q {b : Nat → Bool} {q : Nat} (h1 : 1 ≤ q) (h : b (q - 1) = false) : nL b q = nI (q - 1) := by
  obtain ⟨r, rfl⟩ : ∃ r, q = r + 1 := ⟨q - 1, by omega⟩
  show (if b r = false then nI r else nL b r) = nI r
  exact if_pos h
theorem nR_i {b : Nat → Bool} {d i : Nat} (h : b i = false) (hd : 1 ≤ d) : nR b d i = nI i := by
  obtain ⟨e, rfl⟩ : ∃ e, d = e + 1 := ⟨d - 1, by omega⟩
  show (if b i = false then nI i else nR b e (i + 1)) = nI i
  exact if_pos h
/-- a run of hanging ones between two that carry -/
theorem w_run {b : Nat → Bool} {N q k i : Nat} (hN : N ≤ 1000) (hr : ∀ t, q ≤ t → t < i → b t = true) (hi : b i = false) (hiN : i < N) (hk1 : q ≤ k) (hk2 : k < i) (hq : 1 ≤ q → b (q - 1) = false) :
    wL b N k = (if q = 0 then i else q - 1) ∧ wR b N k = i := by
  have e1 : nL b k = nL b q := by
    have := nL_run (b := b) (q := q) (k - q) (fun t h1 h2 => hr t h1 (by omega))
    rw [show q + (k - q) = k by omega] at this
    exact this
  have e2 : nR b (N - (k + 1)) (k + 1) = nI i := by
    have := nR_run (b := b) (d := N - i) (i - (k + 1)) (k + 1) (fun t h1 h2 => hr t (by omega) (by omega))
    rw [show i - (k + 1) + (N - i) = N - (k + 1) by omega, show k + 1 + (i - (k + 1)) = i by omega] at this
    rw [this]
    exact nR_i hi (by omega)
  unfold wL wR
  rw [e1, e2]
  by_cases c : q = 0
  · subst c
    rw [show nL b 0 = -1 from rfl, if_neg m_nn, if_pos (n_nn i (by omega)), if_pos rfl]
    exact ⟨n_cl (by omega), n_cl (by omega)⟩
  · rw [nL_q (by omega) (hq (by omega)), if_pos (n_nn _ (by omega)), if_pos (n_nn _ (by omega)), if_neg c]
    exact ⟨n_cl (by omega), n_cl (by omega)⟩
theorem w_end {b : Nat → Bool} {N q k : Nat} (hN : N ≤ 1000) (hr : ∀ t, q ≤ t → t < N → b t = true) (hk1 : q ≤ k) (hk2 : k < N) (h1 : 1 ≤ q) (hq : b (q - 1) = false) :
    wL b N k = q - 1 ∧ wR b N k = q - 1 := by
  have e1 : nL b k = nL b q := by
    have := nL_run (b := b) (q := q) (k - q) (fun t h1 h2 => hr t h1 (by omega))
    rw [show q + (k - q) = k by omega] at this
    exact this
  have e2 : nR b (N - (k + 1)) (k + 1) = -1 := by
    have := nR_run (b := b) (d := 0) (N - (k + 1)) (k + 1) (fun t h1 h2 => hr t (by omega) (by omega))
    rw [show N - (k + 1) + 0 = N - (k + 1) by omega] at this
    rw [this]
    rfl
  unfold wL wR
  rw [e1, e2, nL_q h1 hq, if_pos (n_nn _ (by omega)), if_neg m_nn]
  exact ⟨n_cl (by omega), n_cl (by omega)⟩
theorem upd2 (g : Nat → Int32) (a z t : Nat) : upd (upd g a (g a + 1)) z (upd g a (g a + 1) z + 1) t = g t + (if t = a then 1 else 0) + (if t = z then 1 else 0) := by
  by_cases h1 : t = z
  · subst h1
    rw [pk_us, if_pos rfl]
    by_cases h2 : t = a
    · subst h2
      rw [pk_us, if_pos rfl]
    · rw [pk_un h2, if_neg h2, Int32.add_zero]
  · rw [pk_un h1, if_neg h1, Int32.add_zero]
    by_cases h2 : t = a
    · subst h2
      rw [pk_us, if_pos rfl]
    · rw [pk_un h2, if_neg h2, Int32.add_zero]
theorem gl_s {b : Nat → Bool} {N : Nat} {f0 : Nat → Int32} {q t : Nat} (h : b q = true) : gl b N f0 (q + 1) t = gl b N f0 q t + (if t = wL b N q then 1 else 0) + (if t = wR b N q then 1 else 0) := by
  rw [← upd2]
  show (if b q = false then gl b N f0 q else _) t = _
  rw [if_neg (by rw [h]; decide)]
theorem gl_f {b : Nat → Bool} {N : Nat} {f0 : Nat → Int32} {q : Nat} (h : b q = false) : gl b N f0 (q + 1) = gl b N f0 q := if_pos h
theorem i_ac3 (x a c d : Int32) : x + a + c + d = x + (a + d) + c := by
  rw [Int32.add_assoc (x + a) c d, Int32.add_comm c d, ← Int32.add_assoc, Int32.add_assoc x a d]
theorem i_ac5 (x a c d e : Int32) : x + a + c + d + e = x + (a + d) + (c + e) := by
  rw [i_ac3 x a c d, Int32.add_assoc (x + (a + d)) c e]
theorem gl_run {b : Nat → Bool} {N : Nat} {f0 : Nat → Int32} {q a z t : Nat} : ∀ c : Nat, (∀ k, q ≤ k → k < q + c → b k = true ∧ wL b N k = a ∧ wR b N k = z) → gl b N f0 (q + c) t = gl b N f0 q t + (if t = a then nI c else 0) + (if t = z then nI c else 0)
  | 0, _ => by
    have e : ∀ p : Prop, [Decidable p] → (if p then nI 0 else (0 : Int32)) = 0 := fun p _ => by
      split <;> rfl
    rw [e, e, Int32.add_zero, Int32.add_zero]
    rfl
  | c + 1, h => by
    obtain ⟨h1, h2, h3⟩ := h (q + c) (by omega) (by omega)
    show gl b N f0 ((q + c) + 1) t = _
    rw [gl_s h1, h2, h3, gl_run c (fun k g1 g2 => h k g1 (by omega)), i_ac5]
    have e : ∀ p : Prop, [Decidable p] → (if p then nI c else (0 : Int32)) + (if p then 1 else 0) = if p then nI (c + 1) else 0 := fun p _ => by
      split
      · exact n_p1 c
      · rfl
    rw [e, e]
theorem w_below {b : Nat → Bool} {N q k : Nat} (hN : N ≤ 1000) (hk : k < q) (hqN : q ≤ N) (hb : b k = true) (hq : b (q - 1) = false) : wL b N k < q ∧ wR b N k < q := by
  have hne : k ≠ q - 1 := fun e => by rw [e, hq] at hb; exact absurd hb (by decide)
  unfold wL wR
  rcases nR_c b (N - (k + 1)) (k + 1) with ⟨j, h1, h2, h3, h4, h5⟩ | ⟨h1, h2⟩
  · have hj : j < q := by
      rcases Nat.lt_or_ge j q with c | c
      · exact c
      · have := h5 (q - 1) (by omega) (by omega)
        rw [hq] at this
        exact absurd this (by decide)
    rw [h3, if_pos (n_nn j (by omega)), n_cl (by omega)]
    rcases nL_c b k with ⟨i, g1, g2, g3, g4⟩ | ⟨g1, g2⟩
    · rw [g2, if_pos (n_nn i (by omega)), n_cl (by omega)]
      omega
    · rw [g1, if_neg m_nn, n_cl (by omega)]
      omega
  · have := h2 (q - 1) (by omega) (by omega)
    rw [hq] at this
    exact absurd this (by decide)
theorem gl_hi {b : Nat → Bool} {N : Nat} {f0 : Nat → Int32} {q t : Nat} (hN : N ≤ 1000) (hqN : q ≤ N) (hq : 1 ≤ q → b (q - 1) = false) (ht : q ≤ t) : ∀ r : Nat, r ≤ q → gl b N f0 r t = f0 t
  | 0, _ => rfl
  | r + 1, hr => by
    have ih := gl_hi (f0 := f0) hN hqN hq ht r (by omega)
    cases e : b r with
    | false => rw [gl_f e, ih]
    | true =>
      obtain ⟨h1, h2⟩ := w_below hN (k := r) (by omega) hqN e (hq (by omega))
      rw [gl_s e, ih, if_neg (by omega), if_neg (by omega), Int32.add_zero, Int32.add_zero]
theorem gl_run0 {b : Nat → Bool} {N : Nat} {f0 : Nat → Int32} {q i t : Nat} (hN : N ≤ 1000) (hr : ∀ t, q ≤ t → t < i → b t = true) (hi : b i = false) (hiN : i < N) (hqi : q ≤ i) (hq : 1 ≤ q → b (q - 1) = false) :
    gl b N f0 (i + 1) t = gl b N f0 q t + (if t = (if q = 0 then i else q - 1) then nI (i - q) else 0) + (if t = i then nI (i - q) else 0) := by
  rw [gl_f hi]
  have := gl_run (b := b) (N := N) (f0 := f0) (q := q) (a := if q = 0 then i else q - 1) (z := i) (t := t) (i - q) (fun k g1 g2 => ⟨hr k g1 (by omega), w_run hN hr hi hiN g1 (by omega) hq⟩)
  rw [show q + (i - q) = i by omega] at this
  exact this
theorem two_n (c : Nat) : (2 : Int32) * nI c = nI c + nI c := by
  rw [show (2 : Int32) * nI c = nI (2 * c) from pk_mul 2 c, n_a, Nat.two_mul]
theorem r_findLoads {fu : Nat} {v : TV} {u : TS} {N : Nat} {b : Nat → Bool} {f0 : Nat → Int32} (hN : S_sl u = nI N) (hN1 : 10 ≤ N) (hN2 : N ≤ 60) (hf0 : ∀ t, t < N → f0 t = l0 b t) (hb : ∀ t, t < N → V_ha v t = bI (b t)) (hex : ∃ c, c < N ∧ b c = false) (hfu : 2000 ≤ fu) :
    ∃ f, f_X2_findLoads fu v u = some (V_lo_ v f) ∧ ∀ t, t < N → f t = gl b N f0 N t := by
  have key : ∃ x : Int32 × Int32 × TV, lf_X2_findLoads_6 fu u fu (-1 : Int32) (0 : Int32) (0 : Int32) v = some x ∧ ∃ q f, q ≤ N ∧ x = (nI q - 1, nI (N - q), V_lo_ v f) ∧ (∀ t, q ≤ t → t < N → b t = true) ∧ (1 ≤ q → b (q - 1) = false) ∧ ∀ t, t < N → f t = gl b N f0 q t := by
    refine lq_k4 (F := lb_X2_findLoads_6 fu u) (fun d a1 a2 a3 a4 => ∃ q i f, d = N - i ∧ i ≤ N ∧ q ≤ i ∧ a1 = nI q - 1 ∧ a2 = nI (i - q) ∧ a3 = nI i ∧ a4 = V_lo_ v f ∧ (∀ t, q ≤ t → t < i → b t = true) ∧ (1 ≤ q → b (q - 1) = false) ∧ ∀ t, t < i → f t = gl b N f0 q t) _ ?_ fu N _ _ _ _ (by omega) ⟨0, 0, V_lo v, by omega, by omega, by omega, by decide, by decide, rfl, rfl, fun t h1 h2 => by omega, fun h => by omega, fun t h => by omega⟩
    rintro rec d a1 a2 a3 a4 ⟨q, i, f, hd, hi, hqi, rfl, rfl, rfl, rfl, hr, hq, hf⟩ ih
    unfold lb_X2_findLoads_6
    rw [nm_d, hN]
    by_cases h : N ≤ i
    · rw [if_pos (n_le' (by omega) (by omega) h)]
      have e : i = N := by omega
      subst e
      exact ⟨_, rfl, q, f, hqi, rfl, hr, hq, hf⟩
    · rw [if_neg (n_nle (by omega) (by omega) (by omega))]
      simp only [nm_d, jn_e, n_p1]
      rw [ix_n (by omega) (by omega), n_cl (by omega), show V_ha (V_lo_ v f) i = bI (b i) from hb i (by omega)]
      have hg := gl_hi (b := b) (N := N) (f0 := f0) (q := q) (t := i) (by omega) (by omega) hq hqi q (Nat.le_refl q)
      cases e : b i with
      | true =>
        rw [if_neg (by decide), ix_n (by omega) (by omega)]
        refine ih (N - (i + 1)) _ _ _ _ (by omega) ⟨q, i + 1, upd f i 0, rfl, by omega, by omega, rfl, by rw [show i + 1 - q = i - q + 1 by omega], rfl, rfl, fun t h1 h2 => ?_, hq, fun t ht => ?_⟩
        · by_cases c : t = i
          · rw [c, e]
          · exact hr t h1 (by omega)
        · by_cases c : t = i
          · rw [c, pk_us, hg, hf0 i (by omega)]
            unfold l0
            rw [if_neg (by rw [e]; decide)]
          · rw [pk_un c]
            exact hf t (by omega)
      | false =>
        have li : f0 i = 2 := by
          rw [hf0 i (by omega)]
          exact if_pos e
        have hnew : ∀ t, gl b N f0 (i + 1) t = gl b N f0 q t + (if t = (if q = 0 then i else q - 1) then nI (i - q) else 0) + (if t = i then nI (i - q) else 0) := fun t => gl_run0 (by omega) hr e (by omega) hqi hq
        rw [if_pos (by decide), ix_n (by omega) (by omega)]
        by_cases q0 : q = 0
        · subst q0
          rw [show nI 0 - (1 : Int32) = -1 by decide, e_hand2 (by omega), bd_s]
          refine ih (N - (i + 1)) _ _ _ _ (by omega) ⟨i + 1, i + 1, upd (upd f i 2) i (upd f i 2 i + 2 * nI (i - 0)), rfl, by omega, by omega, (n_m1 (j := i + 1) (by omega)).symm, by rw [Nat.sub_self]; rfl, rfl, rfl, fun t h1 h2 => by omega, fun _ => e, fun t ht => ?_⟩
          rw [hnew t, if_pos rfl]
          by_cases c : t = i
          · subst c
            rw [pk_us, pk_us, if_pos rfl, hg, li, two_n, Int32.add_assoc]
          · rw [pk_un c, pk_un c, if_neg c, Int32.add_zero, Int32.add_zero]
            exact hf t (by omega)
        · rw [n_m1 (by omega), e_hand1 (by omega) (by omega), bd_s]
          refine ih (N - (i + 1)) _ _ _ _ (by omega) ⟨i + 1, i + 1, upd (upd (upd f i 2) (q - 1) (upd f i 2 (q - 1) + nI (i - q))) i (upd (upd f i 2) (q - 1) (upd f i 2 (q - 1) + nI (i - q)) i + nI (i - q)), rfl, by omega, by omega, (n_m1 (j := i + 1) (by omega)).symm, by rw [Nat.sub_self]; rfl, rfl, rfl, fun t h1 h2 => by omega, fun _ => e, fun t ht => ?_⟩
          rw [hnew t, if_neg q0]
          by_cases c : t = i
          · subst c
            rw [pk_us, pk_un (by omega), pk_us, if_neg (by omega), if_pos rfl, hg, li, Int32.add_zero]
          · rw [pk_un c, if_neg c, Int32.add_zero]
            by_cases c2 : t = q - 1
            · subst c2
              rw [pk_us, pk_un c, if_pos rfl, hf _ (by omega)]
            · rw [pk_un c2, pk_un c, if_neg c2, Int32.add_zero]
              exact hf t (by omega)
  obtain ⟨x, e1, q, f, hqN, rfl, hr, hq, hf⟩ := key
  obtain ⟨c, hc, hbc⟩ := hex
  have q0 : q ≠ 0 := fun e => by
    have := hr c (by omega) hc
    rw [this] at hbc
    exact absurd hbc (by decide)
  unfold f_X2_findLoads
  rw [e1, bd_s]
  show ∃ f_1, bd (f_X2_handOn fu (V_lo_ v f) u (nI q - 1) (-1 : Int32) (nI (N - q))) _ = some (V_lo_ v f_1) ∧ _
  rw [n_m1 (by omega), e_hand3 (by omega), bd_s]
  refine ⟨upd f (q - 1) (f (q - 1) + 2 * nI (N - q)), rfl, fun t ht => ?_⟩
  have := gl_run (b := b) (N := N) (f0 := f0) (q := q) (a := q - 1) (z := q - 1) (t := t) (N - q) (fun k g1 g2 => ⟨hr k g1 (by omega), w_end (by omega) hr g1 (by omega) (by omega) (hq (by omega))⟩)
  rw [show q + (N - q) = N by omega] at this
  rw [this]
  by_cases c2 : t = q - 1
  · subst c2
    rw [pk_us, if_pos rfl, two_n, hf _ ht, Int32.add_assoc]
  · rw [pk_un c2, if_neg c2, Int32.add_zero, Int32.add_zero]
    exact hf t ht
/-- one carries -/
theorem top_x (u : TS) : ∀ n : Nat, ∃ i, i < n + 1 ∧ ∀ j, j < n + 1 → lvI u j ≤ lvI u i
  | 0 => ⟨0, by omega, fun j h => by
    have : j = 0 := by omega
    subst this
    exact Int.le_refl _⟩
  | n + 1 => by
    obtain ⟨i, hi, h⟩ := top_x u n
    by_cases c : lvI u i ≤ lvI u (n + 1)
    · refine ⟨n + 1, by omega, fun j hj => ?_⟩
      by_cases e : j = n + 1
      · rw [e]
        exact Int.le_refl _
      · exact Int.le_trans (h j (by omega)) c
    · refine ⟨i, by omega, fun j hj => ?_⟩
      by_cases e : j = n + 1
      · rw [e]
        omega
      · exact h j (by omega)
theorem one_car {u : TS} {g : Nat → Int32} {N K : Nat} (hI : TI u) (hN1 : 10 ≤ N) (hN2 : N ≤ 60) (hg : ∀ t, t < N → isR u N K t (g t).toInt) : ∃ c, c < N ∧ hgB u g c = false := by
  obtain ⟨i, hi, ht⟩ := top_x u (N - 1)
  rw [show N - 1 + 1 = N by omega] at hi ht
  refine ⟨i, hi, ?_⟩
  obtain ⟨h1, j, hj, e⟩ := hg i hi
  have h2 := h1 i hi
  have e0 : dst i i = 0 := by
    unfold dst
    rw [if_pos (Nat.le_refl i)]
    omega
  rw [e0, Int.mul_zero] at h2
  have hd : 0 ≤ dst i j := by
    unfold dst
    split <;> omega
  have hp : 0 ≤ (K : Int) * dst i j := Int.mul_nonneg (by omega) hd
  have h3 := ht j hj
  have eg : (g i).toInt = lvI u i := by omega
  obtain ⟨-, ⟨n1, n2⟩, -⟩ := hI.nu
  unfold hgB
  rw [if_pos]
  have e4 : g i = S_lv u i := by
    rw [i_eq]
    exact eg
  rw [e4, Int32.sub_self, i_le, z_0]
  exact n1
