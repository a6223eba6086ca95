def okN (c : Nat → Int32) (n d p : Nat) (lo hi : Int32) : Bool := decide ((rd c n d (sk c n p) 0).1 ≠ sk c n p ∧ ¬ (sk c n p + 1 < (rd c n d (sk c n p) 0).1 ∧ c (sk c n p) = 48) ∧ lo.toInt ≤ (rd c n d (sk c n p) 0).2.toInt ∧ (rd c n d (sk c n p) 0).2.toInt ≤ hi.toInt)
theorem e_readC {fu : Nat} {c : Nat → Int32} {n d p : Nat} {e dd lo hi : Int32} (hn : n ≤ 100) (hdd : dd = nI d) (h1 : 1 ≤ d) (hd : d ≤ 9) (hp : p ≤ n) (hfu : 2000 ≤ fu) :
    f_X3_readNumber fu (tx c n e p) dd lo hi = some (if okN c n d p lo hi = true then ((rd c n d (sk c n p) 0).2, tx c n e (rd c n d (sk c n p) 0).1) else ((-1 : Int32), tx c n (nI (sk c n p)) (rd c n d (sk c n p) 0).1)) := by
  subst hdd
  obtain ⟨r1, r2⟩ := sk_r (c := c) hp
  obtain ⟨q1, q2⟩ := rd_r (c := c) (n := n) d (sk c n p) 0 r2
  unfold f_X3_readNumber f_X3_fail
  rw [e_skip hn hp hfu, bd_s, nm_d, show X_po (tx c n e (sk c n p)) = nI (sk c n p) from rfl, e_rdC hn hd r2 hfu, bd_s]
  simp only [nm_d, jn_e, e_within, bd_s, bf]
  rw [show X_po (tx c n e (rd c n d (sk c n p) 0).1) = nI (rd c n d (sk c n p) 0).1 from rfl, show X_ch (tx c n e (rd c n d (sk c n p) 0).1) = c from rfl, n_p1]
  unfold okN
  generalize hS : sk c n p = S at r1 r2 q1 q2 ⊢
  generalize rd c n d S 0 = R at q1 q2 ⊢
  by_cases a1 : R.1 = S
  · rw [if_neg (fun x => x (by rw [a1])), if_neg (by rw [decide_eq_true_eq]; exact fun x => x.1 a1)]
    rfl
  · rw [if_pos (show ¬ nI R.1 = nI S from fun x => a1 ((n_eq (by omega) (by omega)).mp x))]
    by_cases a2 : S + 1 < R.1
    · rw [if_neg (n_nle (by omega) (by omega) a2), ix_n (by omega) (by omega), n_cl (by omega)]
      by_cases a3 : c S = 48
      · rw [if_pos a3, if_neg (by rw [decide_eq_true_eq]; exact fun x => x.2.1 ⟨a2, a3⟩)]
        rfl
      · rw [if_neg a3]
        by_cases a4 : lo.toInt ≤ R.2.toInt ∧ R.2.toInt ≤ hi.toInt
        · rw [decide_eq_true a4, if_pos (by decide), if_pos (by rw [decide_eq_true_eq]; exact ⟨a1, fun x => a3 x.2, a4⟩)]
        · rw [decide_eq_false a4, if_neg (by decide), if_neg (by rw [decide_eq_true_eq]; exact fun x => a4 x.2.2)]
          rfl
    · rw [if_pos (n_le' (by omega) (by omega) (by omega))]
      by_cases a4 : lo.toInt ≤ R.2.toInt ∧ R.2.toInt ≤ hi.toInt
      · rw [decide_eq_true a4, if_pos (by decide), if_pos (by rw [decide_eq_true_eq]; exact ⟨a1, fun x => a2 x.1, a4⟩)]
      · rw [decide_eq_false a4, if_neg (by decide), if_neg (by rw [decide_eq_true_eq]; exact fun x => a4 x.2.2)]
        rfl
theorem e_readM {fu : Nat} {c s : Nat → Int32} {n d p : Nat} {m : TM} {v dd lo hi : Int32} (hX : HX c n m) (hdd : dd = nI d) (h1 : 1 ≤ d) (hd : d ≤ 9) (hp : p ≤ n) (hfu : 2000 ≤ fu) :
    ∃ v', f_X5_reads fu (mm m s p v) dd lo hi = some (if okN c n d p lo hi = true then (true, mm m s (rd c n d (sk c n p) 0).1 (rd c n d (sk c n p) 0).2) else (false, mm m s (sk c n p) v')) := by
  subst hdd
  have hn := hX.1
  obtain ⟨r1, r2⟩ := sk_r (c := c) hp
  obtain ⟨q1, q2⟩ := rd_r (c := c) (n := n) d (sk c n p) 0 r2
  have k1 := rd_1 (c := c) (n := n) (d := d) (p := sk c n p) (v := 0) h1 r2
  have m1 := fun v0 => e_rdM (fu := fu) (s := s) (d := d) (s0 := sk c n p) (v0 := v0) hX hd r2 hfu
  unfold f_X5_reads
  rw [e_here hX hp hfu, bd_s]
  unfold okN
  have hS0 : sk c n p < n → (M_tx m (sk c n p) = 48 ↔ c (sk c n p) = 48) := fun h => (HX_b hX h).2.1
  generalize hS : sk c n p = S at r1 r2 q1 q2 k1 m1 hS0 ⊢
  by_cases a1 : (rd c n d S 0).1 = S
  · have a2 := k1.mp a1
    have hin : f_X5_in fu (if S < n then c S else -1, mm m s S v).1 (48 : Int32) (57 : Int32) = some false := by
      rw [e_in]
      congr 1
      show decide ((48 : Int32).toInt ≤ (if S < n then c S else (-1 : Int32)).toInt ∧ (if S < n then c S else (-1 : Int32)).toInt ≤ (57 : Int32).toInt) = false
      by_cases h : S < n
      · rw [if_pos h]
        exact decide_eq_false (fun x => a2 ⟨h, decide_eq_true x⟩)
      · rw [if_neg h]
        decide
    refine ⟨v, ?_⟩
    rw [hin, bd_s, if_neg (show ¬ ¬ bI false = 0 by decide)]
    dsimp only
    rw [if_neg (show ¬ decide ((rd c n d S 0).1 ≠ S ∧ ¬ (S + 1 < (rd c n d S 0).1 ∧ c S = 48) ∧ lo.toInt ≤ (rd c n d S 0).2.toInt ∧ (rd c n d S 0).2.toInt ≤ hi.toInt) = true by rw [decide_eq_true_eq]; exact fun x => x.1 a1)]
  · have a2 : S < n ∧ dgB (c S) = true := Classical.byContradiction (fun x => a1 (k1.mpr x))
    have hin : f_X5_in fu (if S < n then c S else -1, mm m s S v).1 (48 : Int32) (57 : Int32) = some true := by
      rw [e_in]
      congr 1
      show decide ((48 : Int32).toInt ≤ (if S < n then c S else (-1 : Int32)).toInt ∧ (if S < n then c S else (-1 : Int32)).toInt ≤ (57 : Int32).toInt) = true
      rw [if_pos a2.1]
      exact a2.2
    have hm := m1 0
    refine ⟨(rd c n d S 0).2, ?_⟩
    rw [hin, bd_s, if_pos (show ¬ bI true = 0 by decide)]
    dsimp only
    rw [nm_d, nm_d, mm_at, mm_nu_, hm, bd_s]
    simp only [nm_d, e_in, bd_s, bf]
    generalize rd c n d S 0 = R at q1 q2 a1 ⊢
    rw [mm_nu, mm_tx, mm_at, mm_at_]
    by_cases a4 : lo.toInt ≤ R.2.toInt ∧ R.2.toInt ≤ hi.toInt
    · rw [decide_eq_true a4, if_neg (by decide), ix_n (by omega) (by omega), n_cl (by omega), n_p1]
      by_cases a3 : c S = 48
      · rw [if_neg (fun x => x ((hS0 a2.1).mpr a3))]
        by_cases a5 : S + 1 < R.1
        · rw [if_neg (n_nle (by omega) (by omega) a5), if_neg (by rw [decide_eq_true_eq]; exact fun x => x.2.1 ⟨a5, a3⟩)]
        · rw [if_pos (n_le' (by omega) (by omega) (by omega)), if_pos (by rw [decide_eq_true_eq]; exact ⟨a1, fun x => a5 x.1, a4⟩)]
      · rw [if_pos (show ¬ M_tx m S = 48 from fun x => a3 ((hS0 a2.1).mp x)), if_pos (by rw [decide_eq_true_eq]; exact ⟨a1, fun x => a3 x.2, a4⟩)]
    · rw [decide_eq_false a4, if_pos rfl, if_neg (by rw [decide_eq_true_eq]; exact fun x => a4 x.2.2)]
