/-! the law's look at all sleepers -/
theorem jn_q {κ β : Type} {K : κ} {M : κ → β} {Q : β → Prop} (P : κ → Prop) (h1 : P K) (h2 : ∀ K' : κ, P K' → Q (M K')) : Q (jn K M) := h2 K h1
def hno (u : TS) (g : Nat → Int32) : Nat → Bool
  | 0 => false
  | k + 1 => hno u g k || decide (g k - S_lv u k = 0)
theorem hno_t {u : TS} {g : Nat → Int32} {k : Nat} (h : hno u g k = true ∨ g k - S_lv u k = 0) : hno u g (k + 1) = true := by
  show (hno u g k || decide (g k - S_lv u k = 0)) = true
  rcases h with h | h
  · rw [h, Bool.true_or]
  · rw [decide_eq_true h, Bool.or_true]
theorem hno_f {u : TS} {g : Nat → Int32} {k : Nat} (h1 : hno u g k = false) (h2 : ¬ g k - S_lv u k = 0) : hno u g (k + 1) = false := by
  show (hno u g k || decide (g k - S_lv u k = 0)) = false
  rw [h1, decide_eq_false h2, Bool.or_false]
theorem hno_x {u : TS} {g : Nat → Int32} {c : Nat} (h : g c - S_lv u c = 0) : ∀ N : Nat, c < N → hno u g N = true
  | 0, hc => absurd hc (Nat.not_lt_zero c)
  | N + 1, hc => by
    by_cases e : c = N
    · exact hno_t (Or.inr (e ▸ h))
    · exact hno_t (Or.inl (hno_x h N (by omega)))
def Lo (u : TS) (N : Nat) (g : Nat → Int32) : Nat → Int32 := gl (hgB u g) N (l0 (hgB u g)) N
def QQ (u : TS) (N : Nat) (g : Nat → Int32) (t : Option (Bool ⊕ (Int32 × Int32 × Int32 × Int32 × Int32 × TV))) : Prop := ∃ w : TV, t = some (Sum.inr (ssum (S_lv u) N, ssum (Lo u N g) N, ssum (S_se u) N, ssum (S_li u) N, bI (hno u g N), w))
set_option maxHeartbeats 4000000 in
theorem k_look {fu : Nat} {u : TS} {hi : TH} {tx : TX} {kp : Nat → Int32} {N K A : Nat} {g : Nat → Int32} {mk : Int32} {o : Int32 × TV} (hI : TI u) (hv : GV u N K A g) (hm : f_X4_keptMask fu kp = some mk) (hfu : 2000 ≤ fu) (ho : o.1 = nI N) :
    ∀ (n k : Nat) (w : TV), k ≤ N → N - k < n → QQ u N g (lq_7 (lb_L_law_222 fu tx u hi kp o) n (ssum (S_lv u) k) (ssum (Lo u N g) k) (ssum (S_se u) k) (ssum (S_li u) k) (bI (hno u g k)) (nI k) w) := by
  obtain ⟨eN, hN1, hN2, eK, hK1, hK2, eA, hA1, hA2, hg⟩ := id hv
  obtain ⟨cr, hcr, hcr2⟩ := one_car hI hN1 hN2 hg
  intro n
  induction n with
  | zero => intro k w h1 h2; omega
  | succ n ih =>
    intro k w hk hn
    show QQ u N g (lb_L_law_222 fu tx u hi kp o (lq_7 (lb_L_law_222 fu tx u hi kp o) n) (ssum (S_lv u) k) (ssum (Lo u N g) k) (ssum (S_se u) k) (ssum (S_li u) k) (bI (hno u g k)) (nI k) w)
    generalize lq_7 (lb_L_law_222 fu tx u hi kp o) n = rc at ih ⊢
    unfold lb_L_law_222
    rw [ho]
    by_cases h : N ≤ k
    · have e : k = N := by omega
      subst e
      rw [if_pos (n_le' (by omega) (by omega) h)]
      exact ⟨w, rfl⟩
    · have hkN : k < N := by omega
      rw [if_neg (n_nle (by omega) (by omega) (by omega))]
      obtain ⟨w1, e1⟩ := v_s0 (fu := fu) (v := w) (i := k) hI hv hkN hfu
      obtain ⟨w2, e2⟩ := v_s5 (fu := fu) (v := w1) (i := k) hI hv hkN hfu
      obtain ⟨w3, e3⟩ := v_s8 (fu := fu) (v := w2) (i := k) hI hv hkN hfu
      obtain ⟨w4, e4⟩ := v_s9 (fu := fu) (v := w3) (i := k) hI hv hkN hfu
      rw [e1]
      dsimp only [bd_s, nm_d]
      rw [e2]
      dsimp only [bd_s, nm_d]
      rw [e3]
      dsimp only [bd_s, nm_d]
      rw [e4]
      dsimp only [bd_s, nm_d]
      refine jn_q (fun K' => ∀ w, QQ u N g (K' (bI (hno u g (k + 1))) w)) ?_ (fun K299 h299 => ?_)
      · intro w5
        obtain ⟨w6, f1⟩ := v_s3 (fu := fu) (v := w5) (i := k) hI hv hkN hfu
        obtain ⟨w7, f2⟩ := v_r0 (fu := fu) (v := w6) (i := k) hI hv hkN hfu
        obtain ⟨w8, f3⟩ := v_r1 (fu := fu) (v := w7) (i := k) hI hv hkN hfu
        obtain ⟨w9, f4⟩ := v_s1 (fu := fu) (v := w8) (i := k) hI hv hkN hfu
        obtain ⟨w10, f5⟩ := v_s4 (fu := fu) (v := w9) (i := k) hI hv hkN hfu
        try dsimp only
        rw [f1]
        dsimp only [bd_s, nm_d]
        rw [if_neg (f_void hI hv hkN), f2]
        dsimp only [bd_s, nm_d]
        rw [f3]
        dsimp only [bd_s, nm_d]
        rw [if_neg (show ¬ ¬ g k = g k from fun e => e rfl), f4]
        dsimp only [bd_s, nm_d]
        rw [if_neg (f_foul hI (by omega)), f5]
        dsimp only [bd_s, nm_d]
        refine jn_q (fun K' => ∀ w, QQ u N g (K' w)) ?_ (fun K363 h363 => ?_)
        · intro w11
          try dsimp only
          refine jn_q (fun K' => ∀ (x : Int32) (w : TV), x.toInt ≤ K → -(K : Int) ≤ x.toInt → QQ u N g (K' x w)) ?_ (fun K389 h389 => ?_)
          · intro x w12 x1 x2
            obtain ⟨w13, g1⟩ := v_c1 (fu := fu) (v := w12) (hi := hi) (tx := tx) hI hv hm hfu
            obtain ⟨w14, g2⟩ := v_c1 (fu := fu) (v := w13) (hi := hi) (tx := tx) hI hv hm hfu
            rw [eK] at g1 g2
            try dsimp only
            rw [g1]
            dsimp only [bd_s, nm_d]
            rw [if_neg (show ¬ nI K < x by rw [i_lt, n_ti (by omega)]; omega), g2]
            dsimp only [bd_s, nm_d]
            rw [if_pos (show -x ≤ nI K by rw [i_le, n_ti (by omega), i_neg (by omega) (by omega)]; omega), n_p1]
            exact ih (k + 1) w14 (by omega) (by omega)
          · by_cases k0 : k = 0
            · rw [if_neg (show ¬ ¬ nI k = 0 from fun e => e (by rw [k0]; rfl))]
              exact h389 0 w11 (by rw [z_0]; omega) (by rw [z_0]; omega)
            · rw [if_pos (show ¬ nI k = 0 from fun e => k0 ((n_eq (b := 0) (by omega) (by omega)).mp e))]
              obtain ⟨i, rfl⟩ : ∃ i, k = i + 1 := ⟨k - 1, by omega⟩
              obtain ⟨w15, g3⟩ := v_r0 (fu := fu) (v := w11) (i := i + 1) hI hv hkN hfu
              obtain ⟨w16, g4⟩ := v_r0 (fu := fu) (v := w15) (i := i) hI hv (by omega) hfu
              rw [g3]
              dsimp only [bd_s, nm_d]
              rw [n_m1 (by omega), show i + 1 - 1 = i from rfl, g4]
              dsimp only [bd_s, nm_d]
              obtain ⟨y1, y2⟩ := f_fall hI hv hkN
              exact h389 _ _ y1 y2
        · cases hb : hgB u g k with
          | false =>
            rw [if_pos (show ¬ bI false = (1 : Int32) by decide)]
            exact h363 _
          | true =>
            rw [if_neg (show ¬ ¬ bI true = (1 : Int32) by decide)]
            obtain ⟨w17, g5⟩ := v_s5 (fu := fu) (v := w10) (i := k) hI hv hkN hfu
            rw [g5]
            dsimp only [bd_s, nm_d]
            rw [f_none5 (by omega) hcr hcr2 hb N (Nat.le_refl N), show l0 (hgB u g) k = 0 from if_neg (by rw [hb]; decide), if_pos rfl]
            exact h363 _
      · refine jn_q (fun K' => (hno u g k = true ∨ g k - S_lv u k = 0) → ∀ w, QQ u N g (K' w)) ?_ (fun K294 h294 => ?_)
        · intro hh w18
          have h9 := h299 w18
          rw [hno_t hh] at h9
          exact h9
        · cases hb : hno u g k with
          | true =>
            rw [if_pos (show ¬ bI true = 0 by decide)]
            exact h294 (Or.inl hb) _
          | false =>
            rw [if_neg (show ¬ ¬ bI false = 0 by decide)]
            obtain ⟨w19, g6⟩ := v_s3 (fu := fu) (v := w4) (i := k) hI hv hkN hfu
            rw [g6]
            dsimp only [bd_s, nm_d]
            by_cases hz : g k - S_lv u k = 0
            · rw [if_neg (show ¬ ¬ g k - S_lv u k = 0 from fun e => e hz)]
              exact h294 (Or.inr hz) _
            · rw [if_pos hz]
              have h9 := h299 w19
              rw [hno_f hb hz] at h9
              exact h9
