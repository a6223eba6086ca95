/-! the loads -/
/-- the nearest one that carries, to the left and to the right; -1 -/
def nL (b : Nat → Bool) : Nat → Int32
  | 0 => -1
  | k + 1 => if b k = false then nI k else nL b k
def nR (b : Nat → Bool) : Nat → Nat → Int32
  | 0, _ => -1
  | d + 1, i => if b i = false then nI i else nR b d (i + 1)
theorem nL_c (b : Nat → Bool) : ∀ k : Nat, (∃ j, j < k ∧ nL b k = nI j ∧ b j = false ∧ ∀ t, j < t → t < k → b t = true) ∨ (nL b k = -1 ∧ ∀ t, t < k → b t = true)
  | 0 => Or.inr ⟨rfl, fun t h => by omega⟩
  | k + 1 => by
    cases e : b k with
    | false =>
      refine Or.inl ⟨k, by omega, ?_, e, fun t h1 h2 => by omega⟩
      show (if b k = false then nI k else nL b k) = nI k
      rw [if_pos e]
    | true =>
      have e2 : nL b (k + 1) = nL b k := by
        show (if b k = false then nI k else nL b k) = nL b k
        rw [if_neg (by rw [e]; decide)]
      rw [e2]
      rcases nL_c b k with ⟨j, h1, h2, h3, h4⟩ | ⟨h1, h2⟩
      · refine Or.inl ⟨j, by omega, h2, h3, fun t g1 g2 => ?_⟩
        by_cases c : t = k
        · rw [c, e]
        · exact h4 t g1 (by omega)
      · refine Or.inr ⟨h1, fun t g => ?_⟩
        by_cases c : t = k
        · rw [c, e]
        · exact h2 t (by omega)
theorem nR_c (b : Nat → Bool) : ∀ d i : Nat, (∃ j, i ≤ j ∧ j < i + d ∧ nR b d i = nI j ∧ b j = false ∧ ∀ t, i ≤ t → t < j → b t = true) ∨ (nR b d i = -1 ∧ ∀ t, i ≤ t → t < i + d → b t = true)
  | 0, i => Or.inr ⟨rfl, fun t h1 h2 => by omega⟩
  | d + 1, i => by
    cases e : b i with
    | false =>
      refine Or.inl ⟨i, by omega, by omega, ?_, e, fun t h1 h2 => by omega⟩
      show (if b i = false then nI i else nR b d (i + 1)) = nI i
      rw [if_pos e]
    | true =>
      have e2 : nR b (d + 1) i = nR b d (i + 1) := by
        show (if b i = false then nI i else nR b d (i + 1)) = nR b d (i + 1)
        rw [if_neg (by rw [e]; decide)]
      rw [e2]
      rcases nR_c b d (i + 1) with ⟨j, h1, h2, h3, h4, h5⟩ | ⟨h1, h2⟩
      · refine Or.inl ⟨j, by omega, by omega, h3, h4, fun t g1 g2 => ?_⟩
        by_cases c : t = i
        · rw [c, e]
        · exact h5 t (by omega) g2
      · refine Or.inr ⟨h1, fun t g1 g2 => ?_⟩
        by_cases c : t = i
        · rw [c, e]
        · exact h2 t (by omega) (by omega)
theorem n_nn (j : Nat) (h : j < 2147483648) : (0 : Int32) ≤ nI j := by
  rw [i_le, z_0, n_ti h]
  omega
theorem m_nn : ¬ (0 : Int32) ≤ (-1 : Int32) := by decide
/-- where a hanging one hands its load -/
def wL (b : Nat → Bool) (N k : Nat) : Nat := (if 0 ≤ nL b k then nL b k else nR b (N - (k + 1)) (k + 1)).toNatClampNeg
def wR (b : Nat → Bool) (N k : Nat) : Nat := (if 0 ≤ nR b (N - (k + 1)) (k + 1) then nR b (N - (k + 1)) (k + 1) else nL b k).toNatClampNeg
/-- where they lie: both among those that carry -/
theorem w_in {b : Nat → Bool} {N k c : Nat} (hN : N ≤ 1000) (hk : k < N) (hb : b k = true) (hc : c < N) (hbc : b c = false) :
    ∃ x y : Nat, x < N ∧ y < N ∧ (if 0 ≤ nL b k then nL b k else nR b (N - (k + 1)) (k + 1)) = nI x ∧ (if 0 ≤ nR b (N - (k + 1)) (k + 1) then nR b (N - (k + 1)) (k + 1) else nL b k) = nI y ∧ wL b N k = x ∧ wR b N k = y := by
  have hck : c ≠ k := fun e => by rw [e, hb] at hbc; exact absurd hbc (by decide)
  unfold wL wR
  rcases nL_c b k with ⟨j, h1, h2, h3, h4⟩ | ⟨h1, h2⟩
  · rw [h2, if_pos (n_nn j (by omega))]
    rcases nR_c b (N - (k + 1)) (k + 1) with ⟨i, g1, g2, g3, g4, g5⟩ | ⟨g1, g2⟩
    · rw [g3, if_pos (n_nn i (by omega))]
      exact ⟨j, i, by omega, by omega, rfl, rfl, n_cl (by omega), n_cl (by omega)⟩
    · rw [g1, if_neg m_nn]
      exact ⟨j, j, by omega, by omega, rfl, rfl, n_cl (by omega), n_cl (by omega)⟩
  · rw [h1, if_neg m_nn]
    rcases nR_c b (N - (k + 1)) (k + 1) with ⟨i, g1, g2, g3, g4, g5⟩ | ⟨g1, g2⟩
    · rw [g3, if_pos (n_nn i (by omega))]
      exact ⟨i, i, by omega, by omega, rfl, rfl, n_cl (by omega), n_cl (by omega)⟩
    · exfalso
      have : b c = true := by
        by_cases e : c < k
        · exact h2 c e
        · exact g2 c (by omega) (by omega)
      rw [this] at hbc
      exact absurd hbc (by decide)
/-- the loads when the first q have handed theirs on -/
def gl (b : Nat → Bool) (N : Nat) (f0 : Nat → Int32) : Nat → Nat → Int32
  | 0 => f0
  | q + 1 => if b q = false then gl b N f0 q else upd (upd (gl b N f0 q) (wL b N q) (gl b N f0 q (wL b N q) + 1)) (wR b N q) (upd (gl b N f0 q) (wL b N q) (gl b N f0 q (wL b N q) + 1) (wR b N q) + 1)
def l0 (b : Nat → Bool) (k : Nat) : Int32 := if b k = false then 2 else 0
theorem hs_lt {N i : Nat} (h : i < N) (h2 : N ≤ 1000) : hs (nI N) (nI i) = true := by
  unfold hs
  rw [decide_eq_true_eq, n_m1 (by omega), n_ti (by omega), n_ti (by omega), z_0]
  omega
theorem hs_ge {N i : Nat} (h : N ≤ i) (h1 : 1 ≤ N) (h2 : i ≤ 1000) : hs (nI N) (nI i) = false := by
  unfold hs
  rw [decide_eq_false_iff_not, n_m1 (by omega), n_ti (by omega), n_ti (by omega), z_0]
  omega
theorem hs_m {n : Int32} : hs n (-1) = false := by
  unfold hs
  rw [decide_eq_false_iff_not]
  intro e
  exact absurd e.1 (by decide)
theorem e_nearL {fu : Nat} {m : TM} {u : TS} {N k : Nat} (hT : TR u (M_ss m)) (hN : S_sl u = nI N) (hN1 : 10 ≤ N) (hN2 : N ≤ 60) (hk : k < N) (hfu : 2000 ≤ fu) : f_X5_nearest fu m (nI k) (-1 : Int32) = some (nL (hgB u (M_ra m)) k) := by
  have s0 : M_ss m 0 = nI N := hT.sl.symm.trans hN
  have key : ∀ i n : Nat, i < n → i ≤ N → ∃ x, lq_1 (lb_X5_nearest_4 fu m (-1)) n (nI i - 1) = some x ∧ (if hs (nI N) x = false then (-1 : Int32) else x) = nL (hgB u (M_ra m)) i := by
    intro i
    induction i with
    | zero =>
      intro n h1 h2
      obtain ⟨n, rfl⟩ : ∃ n', n = n' + 1 := ⟨n - 1, by omega⟩
      refine ⟨-1, ?_, by rw [if_pos hs_m]; rfl⟩
      show lb_X5_nearest_4 fu m (-1) (lq_1 (lb_X5_nearest_4 fu m (-1)) n) (nI 0 - 1) = _
      rw [show nI 0 - (1 : Int32) = -1 by decide]
      generalize lq_1 (lb_X5_nearest_4 fu m (-1)) n = rc
      unfold lb_X5_nearest_4
      simp only [e_isSleeper, bd_s, bf, hs_m]
      rfl
    | succ i ih =>
      intro n h1 h2
      obtain ⟨n, rfl⟩ : ∃ n', n = n' + 1 := ⟨n - 1, by omega⟩
      have e2 : nL (hgB u (M_ra m)) (i + 1) = if hgB u (M_ra m) i = false then nI i else nL (hgB u (M_ra m)) i := rfl
      rw [e2]
      have st : lq_1 (lb_X5_nearest_4 fu m (-1)) (n + 1) (nI (i + 1) - 1) = if hgB u (M_ra m) i = false then some (nI i) else lq_1 (lb_X5_nearest_4 fu m (-1)) n (nI i - 1) := by
        show lb_X5_nearest_4 fu m (-1) (lq_1 (lb_X5_nearest_4 fu m (-1)) n) (nI (i + 1) - 1) = _
        generalize lq_1 (lb_X5_nearest_4 fu m (-1)) n = rc
        rw [n_m1 (by omega), show i + 1 - 1 = i by omega]
        unfold lb_X5_nearest_4
        rw [e_isSleeper, bd_s, s0, hs_lt (by omega) (by omega), if_neg (by decide), e_hangs hT (by omega), bd_s]
        simp only [bf, nm_d, sub_m1]
      rw [st]
      by_cases c : hgB u (M_ra m) i = false
      · rw [if_pos c, if_pos c]
        exact ⟨_, rfl, by rw [hs_lt (by omega) (by omega), if_neg (by decide)]⟩
      · rw [if_neg c, if_neg c]
        exact ih n (by omega) (by omega)
  obtain ⟨x, h1, h2⟩ := key k fu (by omega) (by omega)
  unfold f_X5_nearest
  rw [nm_d, sub_m1, show lf_X5_nearest_4 fu m (-1 : Int32) fu (nI k - 1) = _ from h1, bd_s, e_isSleeper, bd_s, s0]
  rw [← h2]
  cases hs (nI N) x <;> rfl
theorem e_nearR {fu : Nat} {m : TM} {u : TS} {N k : Nat} (hT : TR u (M_ss m)) (hN : S_sl u = nI N) (hN1 : 10 ≤ N) (hN2 : N ≤ 60) (hk : k < N) (hfu : 2000 ≤ fu) : f_X5_nearest fu m (nI k) (1 : Int32) = some (nR (hgB u (M_ra m)) (N - (k + 1)) (k + 1)) := by
  have s0 : M_ss m 0 = nI N := hT.sl.symm.trans hN
  have key : ∀ d i n : Nat, d < n → i + d = N → ∃ x, lq_1 (lb_X5_nearest_4 fu m 1) n (nI i) = some x ∧ (if hs (nI N) x = false then (-1 : Int32) else x) = nR (hgB u (M_ra m)) d i := by
    intro d
    induction d with
    | zero =>
      intro i n h1 h2
      obtain ⟨n, rfl⟩ : ∃ n', n = n' + 1 := ⟨n - 1, by omega⟩
      have hi : hs (nI N) (nI i) = false := hs_ge (by omega) (by omega) (by omega)
      refine ⟨nI i, ?_, by rw [hi, if_pos rfl]; rfl⟩
      show lb_X5_nearest_4 fu m 1 (lq_1 (lb_X5_nearest_4 fu m 1) n) (nI i) = _
      generalize lq_1 (lb_X5_nearest_4 fu m 1) n = rc
      unfold lb_X5_nearest_4
      rw [e_isSleeper, bd_s, s0, hi, if_pos (by decide)]
    | succ d ih =>
      intro i n h1 h2
      obtain ⟨n, rfl⟩ : ∃ n', n = n' + 1 := ⟨n - 1, by omega⟩
      have e2 : nR (hgB u (M_ra m)) (d + 1) i = if hgB u (M_ra m) i = false then nI i else nR (hgB u (M_ra m)) d (i + 1) := rfl
      rw [e2]
      have st : lq_1 (lb_X5_nearest_4 fu m 1) (n + 1) (nI i) = if hgB u (M_ra m) i = false then some (nI i) else lq_1 (lb_X5_nearest_4 fu m 1) n (nI (i + 1)) := by
        show lb_X5_nearest_4 fu m 1 (lq_1 (lb_X5_nearest_4 fu m 1) n) (nI i) = _
        generalize lq_1 (lb_X5_nearest_4 fu m 1) n = rc
        unfold lb_X5_nearest_4
        rw [e_isSleeper, bd_s, s0, hs_lt (by omega) (by omega), if_neg (by decide), e_hangs hT (by omega), bd_s]
        simp only [bf, nm_d, n_p1]
      rw [st]
      by_cases c : hgB u (M_ra m) i = false
      · rw [if_pos c, if_pos c]
        exact ⟨_, rfl, by rw [hs_lt (by omega) (by omega), if_neg (by decide)]⟩
      · rw [if_neg c, if_neg c]
        exact ih (i + 1) n (by omega) (by omega)
  obtain ⟨x, h1, h2⟩ := key (N - (k + 1)) (k + 1) fu (by omega) (by omega)
  unfold f_X5_nearest
  rw [nm_d, n_p1, show lf_X5_nearest_4 fu m (1 : Int32) fu (nI (k + 1)) = _ from h1, bd_s, e_isSleeper, bd_s, s0]
  rw [← h2]
  cases hs (nI N) x <;> rfl
theorem e_laysLoads {fu : Nat} {m : TM} {u : TS} {N : Nat} (hT : TR u (M_ss m)) (hN : S_sl u = nI N) (hN1 : 10 ≤ N) (hN2 : N ≤ 60) (hex : ∃ c, c < N ∧ hgB u (M_ra m) c = false) (hfu : 2000 ≤ fu) :
    f_X5_laysLoads fu m = some (M_lo_ m (gl (hgB u (M_ra m)) N (fl (l0 (hgB u (M_ra m))) (M_lo m) 0 N) N)) := by
  have s0 : M_ss m 0 = nI N := hT.sl.symm.trans hN
  obtain ⟨c, hc, hbc⟩ := hex
  have h1 := cp_loop2 (F := lb_X5_laysLoads_2 fu) N (fun k => nI k) (fun k => M_lo_ m (fl (l0 (hgB u (M_ra m))) (M_lo m) 0 k)) (M_lo_ m (fl (l0 (hgB u (M_ra m))) (M_lo m) 0 N)) (fun rec => by
    unfold lb_X5_laysLoads_2
    rw [nm_d, show M_ss (M_lo_ m (fl (l0 (hgB u (M_ra m))) (M_lo m) 0 N)) 0 = nI N from s0, if_pos (n_le' (by omega) (by omega) (Nat.le_refl N))]) (fun rec k hk => by
    unfold lb_X5_laysLoads_2
    rw [nm_d, show M_ss (M_lo_ m (fl (l0 (hgB u (M_ra m))) (M_lo m) 0 k)) 0 = nI N from s0, if_neg (n_nle (by omega) (by omega) hk), e_hangs (m := M_lo_ m (fl (l0 (hgB u (M_ra m))) (M_lo m) 0 k)) hT (by omega), bd_s]
    simp only [jn_e, nm_d, bf, M_lo_ra, M_lo_lo]
    rw [ix_n (by omega) (by omega), ix_n (by omega) (by omega), n_cl (by omega), n_p1]
    rw [← fl_s0 (l0 (hgB u (M_ra m))) (M_lo m) k]
    show (if hgB u (M_ra m) k = false then _ else _) = _
    unfold l0
    by_cases e : hgB u (M_ra m) k = false
    · rw [if_pos e, if_pos e]
      rfl
    · rw [if_neg e, if_neg e]
      rfl) fu 0 (by omega) (by omega)
  rw [fl_0] at h1
  generalize hf0 : fl (l0 (hgB u (M_ra m))) (M_lo m) 0 N = f0 at h1 ⊢
  have h2 := cp_loop2 (F := lb_X5_laysLoads_39 fu) N (fun k => nI k) (fun k => M_lo_ m (gl (hgB u (M_ra m)) N f0 k)) (M_lo_ m (gl (hgB u (M_ra m)) N f0 N)) (fun rec => by
    unfold lb_X5_laysLoads_39
    rw [nm_d, show M_ss (M_lo_ m (gl (hgB u (M_ra m)) N f0 N)) 0 = nI N from s0, if_pos (n_le' (by omega) (by omega) (Nat.le_refl N))]) (fun rec k hk => by
    have gs : gl (hgB u (M_ra m)) N f0 (k + 1) = if hgB u (M_ra m) k = false then gl (hgB u (M_ra m)) N f0 k else upd (upd (gl (hgB u (M_ra m)) N f0 k) (wL (hgB u (M_ra m)) N k) (gl (hgB u (M_ra m)) N f0 k (wL (hgB u (M_ra m)) N k) + 1)) (wR (hgB u (M_ra m)) N k) (upd (gl (hgB u (M_ra m)) N f0 k) (wL (hgB u (M_ra m)) N k) (gl (hgB u (M_ra m)) N f0 k (wL (hgB u (M_ra m)) N k) + 1) (wR (hgB u (M_ra m)) N k) + 1) := rfl
    rw [gs]
    generalize gl (hgB u (M_ra m)) N f0 k = G
    unfold lb_X5_laysLoads_39
    rw [nm_d, show M_ss (M_lo_ m G) 0 = nI N from s0, if_neg (n_nle (by omega) (by omega) hk), e_hangs (m := M_lo_ m G) hT (by omega), bd_s, e_nearL (m := M_lo_ m G) hT hN hN1 hN2 hk hfu, e_nearR (m := M_lo_ m G) hT hN hN1 hN2 hk hfu]
    simp only [jn_e, nm_d, bf, bd_s, n_p1, M_lo_ra, M_lo_lo]
    by_cases e : hgB u (M_ra m) k = false
    · rw [if_pos e, if_pos e]
    · rw [if_neg e, if_neg e]
      obtain ⟨x, y, hx, hy, ex, ey, ewx, ewy⟩ := w_in (N := N) (by omega) hk (by simpa using e) hc hbc
      rw [ewx, ewy]
      have fin : ∀ (a z : Int32), a = nI x → z = nI y → (ix a 60 <| ix a 60 <| ix z 60 <| ix z 60 <| rec (nI (k + 1)) (M_lo_ (M_lo_ m (upd G a.toNatClampNeg (G a.toNatClampNeg + 1))) (upd (upd G a.toNatClampNeg (G a.toNatClampNeg + 1)) z.toNatClampNeg (upd G a.toNatClampNeg (G a.toNatClampNeg + 1) z.toNatClampNeg + 1)))) = rec (nI (k + 1)) (M_lo_ m (upd (upd G x (G x + 1)) y (upd G x (G x + 1) y + 1))) := by
        rintro a z rfl rfl
        rw [ix_n (by omega) (by omega), ix_n (by omega) (by omega), ix_n (by omega) (by omega), ix_n (by omega) (by omega), n_cl (by omega), n_cl (by omega)]
        rfl
      by_cases c1 : (0 : Int32) ≤ nL (hgB u (M_ra m)) k
      · rw [if_pos c1]
        rw [if_pos c1] at ex
        by_cases c2 : (0 : Int32) ≤ nR (hgB u (M_ra m)) (N - (k + 1)) (k + 1)
        · rw [if_pos c2] at ey
          rw [if_pos c2]
          exact fin _ _ ex ey
        · rw [if_neg c2] at ey
          rw [if_neg c2]
          exact fin _ _ ex ey
      · rw [if_neg c1]
        rw [if_neg c1] at ex
        by_cases c2 : (0 : Int32) ≤ nR (hgB u (M_ra m)) (N - (k + 1)) (k + 1)
        · rw [if_pos c2] at ey
          rw [if_pos c2]
          exact fin _ _ ex ey
        · rw [if_neg c2] at ey
          rw [if_neg c2]
          exact fin _ _ ex ey) fu 0 (by omega) (by omega)
  unfold f_X5_laysLoads
  rw [show lf_X5_laysLoads_2 fu fu (0 : Int32) m = _ from h1, bd_s, show lf_X5_laysLoads_39 fu fu (0 : Int32) (M_lo_ m f0) = _ from h2]
  rfl
