theorem r_read {fu : Nat} {c : Nat → Int32} {n N : Nat} {m : TM} (hX : HX c n m) (hN1 : 10 ≤ N) (hN2 : N ≤ 60) (hfu : 2000 ≤ fu) : ∀ (f1 f2 k p : Nat) (e v : Int32) (u : TS) (s : Nat → Int32), p ≤ n → 2 * k ≤ p → n - p < f1 → n - p + 1 < f2 → TR u s → TI u → S_sl u = nI N →
    (∃ (k' p' : Nat) (e' v' : Int32) (u' : TS) (s' : Nat → Int32), lq_3 (lb_X3_readInto_7 fu) f1 (nI k) (tx c n e p) u = some (Sum.inl (nI k', tx c n e' p', u')) ∧ lq_3 (lb_X5_load_13 fu) f2 (nI k) 1 (mm m s p v) = some (nI k', 1, mm m s' p' v') ∧ TR u' s' ∧ TI u' ∧ k' ≤ 100) ∨
    (∃ (q p' : Nat) (k' v' : Int32) (u' : TS) (s' : Nat → Int32), lq_3 (lb_X3_readInto_7 fu) f1 (nI k) (tx c n e p) u = some (Sum.inl ((-1 : Int32), tx c n (nI q) p', u')) ∧ lq_3 (lb_X5_load_13 fu) f2 (nI k) 1 (mm m s p v) = some (k', 0, mm m s' q v')) := by
  have hn := hX.1
  intro f1
  induction f1 with
  | zero => intro f2 k p e v u s h1 h2 h3; omega
  | succ f1 ih =>
    intro f2 k p e v u s hp hk h3 h4 hT hI hN
    obtain ⟨f2, rfl⟩ : ∃ f, f2 = f + 2 := ⟨f2 - 2, by omega⟩
    have ih := ih (f2 + 1)
    have fin0 : ∀ (x : Int32) (w : TM), lq_3 (lb_X5_load_13 fu) (f2 + 1) x 0 w = some (x, 0, w) := fun x w => by
      show lb_X5_load_13 fu (lq_3 (lb_X5_load_13 fu) f2) x 0 w = _
      generalize lq_3 (lb_X5_load_13 fu) f2 = rc
      unfold lb_X5_load_13
      exact if_pos rfl
    have c1 : lq_3 (lb_X3_readInto_7 fu) (f1 + 1) (nI k) (tx c n e p) u = lb_X3_readInto_7 fu (lq_3 (lb_X3_readInto_7 fu) f1) (nI k) (tx c n e p) u := rfl
    have c2 : lq_3 (lb_X5_load_13 fu) (f2 + 2) (nI k) 1 (mm m s p v) = lb_X5_load_13 fu (lq_3 (lb_X5_load_13 fu) (f2 + 1)) (nI k) 1 (mm m s p v) := rfl
    rw [c1, c2]
    clear c1 c2
    generalize lq_3 (lb_X3_readInto_7 fu) f1 = rc1 at ih ⊢
    generalize lq_3 (lb_X5_load_13 fu) (f2 + 1) = rc2 at ih fin0 ⊢
    obtain ⟨r1, r2⟩ := sk_r (c := c) hp
    unfold lb_X3_readInto_7 lb_X5_load_13
    rw [if_neg (show ¬ (100 : Int32) ≤ nI k from n_nle (a := 100) (by omega) (by omega) (by omega)), if_neg (show ¬ (1 : Int32) = 0 by decide), e_skip hn hp hfu, e_here hX hp hfu]
    simp only [bd_s, nm_d]
    rw [show X_po (tx c n e (sk c n p)) = nI (sk c n p) from rfl, show X_ln (tx c n e (sk c n p)) = nI n from rfl]
    by_cases h : sk c n p < n
    · rw [if_pos ((n_lt (by omega) (by omega)).mpr h), if_pos h]
      obtain ⟨⟨g1, g2⟩, -⟩ := hX.2.2 (sk c n p) h
      rw [if_neg (show ¬ c (sk c n p) < 0 by rw [i_lt, z_0]; omega)]
      rcases s_item (fu := fu) (e := e) (v := v) hX r2 hN hN1 hN2 hT hI hfu with ⟨e', p', u', s', v', k1, k2, k3, k4, k5, k6, k7⟩ | ⟨q, p', u', s', v', k1, k2⟩
      · rw [k1, k2]
        simp only [bd_s, n_p1]
        rw [if_pos (show ¬ bI true = 0 by decide)]
        exact ih (k + 1) p' e' v' u' s' k7 (by omega) (by omega) (by omega) k3 k4 k5
      · rw [k1, k2]
        simp only [bd_s, n_p1]
        rw [if_neg (show ¬ ¬ bI false = 0 by decide)]
        exact Or.inr ⟨q, p', nI (k + 1), v', u', s', rfl, fin0 _ _⟩
    · rw [if_neg (fun x => h ((n_lt (by omega) (by omega)).mp x)), if_neg h, if_pos m_neg]
      exact Or.inl ⟨k, sk c n p, e, v, u, s, rfl, rfl, hT, hI, by omega⟩
