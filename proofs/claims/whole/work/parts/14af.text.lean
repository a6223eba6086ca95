/-- digits -/
def dgB (x : Int32) : Bool := decide ((48 : Int32).toInt ≤ x.toInt ∧ x.toInt ≤ (57 : Int32).toInt)
def rd (c : Nat → Int32) (n : Nat) : Nat → Nat → Int32 → Nat × Int32
  | 0, p, v => (p, v)
  | d + 1, p, v => if p < n ∧ dgB (c p) = true then rd c n d (p + 1) (10 * v + c p - 48) else (p, v)
theorem rd_x {c : Nat → Int32} {n p : Nat} {v : Int32} (h : ¬ (p < n ∧ dgB (c p) = true)) : ∀ d : Nat, rd c n d p v = (p, v)
  | 0 => rfl
  | _ + 1 => if_neg h
theorem rd_s {c : Nat → Int32} {n p d : Nat} {v : Int32} (h : p < n ∧ dgB (c p) = true) : rd c n (d + 1) p v = rd c n d (p + 1) (10 * v + c p - 48) := if_pos h
theorem rd_r {c : Nat → Int32} {n : Nat} : ∀ (d p : Nat) (v : Int32), p ≤ n → p ≤ (rd c n d p v).1 ∧ (rd c n d p v).1 ≤ n
  | 0, p, v, h => ⟨Nat.le_refl p, h⟩
  | d + 1, p, v, h => by
    by_cases e : p < n ∧ dgB (c p) = true
    · rw [rd_s e]
      have := rd_r (c := c) (n := n) d (p + 1) (10 * v + c p - 48) (by omega)
      omega
    · rw [rd_x e]
      exact ⟨Nat.le_refl p, h⟩
theorem rd_1 {c : Nat → Int32} {n d p : Nat} {v : Int32} (hd : 1 ≤ d) (hp : p ≤ n) : (rd c n d p v).1 = p ↔ ¬ (p < n ∧ dgB (c p) = true) := by
  obtain ⟨d, rfl⟩ : ∃ d', d = d' + 1 := ⟨d - 1, by omega⟩
  constructor
  · intro h e
    rw [rd_s e] at h
    have := (rd_r (c := c) (n := n) d (p + 1) (10 * v + c p - 48) (by omega)).1
    omega
  · intro h
    rw [rd_x h]
theorem e_isDigit (fu : Nat) (x : Int32) : f_X3_isDigit fu x = some (dgB x) := by
  unfold f_X3_isDigit
  rw [e_within]
  rfl
theorem e_rdC {fu : Nat} {c : Nat → Int32} {n d s0 : Nat} {e : Int32} (hn : n ≤ 100) (hd : d ≤ 9) (hp : s0 ≤ n) (hfu : 2000 ≤ fu) : lf_X3_readNumber_13 fu (nI d) (nI s0) fu (0 : Int32) (tx c n e s0) = some ((rd c n d s0 0).2, tx c n e (rd c n d s0 0).1) := by
  have key : ∀ (f k p : Nat) (v : Int32), p + k = s0 + d → p ≤ n → n - p < f → lq_2 (lb_X3_readNumber_13 fu (nI d) (nI s0)) f v (tx c n e p) = some ((rd c n k p v).2, tx c n e (rd c n k p v).1) := by
    intro f
    induction f with
    | zero => intro k p v h0 h1 h2; omega
    | succ f ih =>
      intro k p v h0 h1 h2
      show lb_X3_readNumber_13 fu (nI d) (nI s0) (lq_2 (lb_X3_readNumber_13 fu (nI d) (nI s0)) f) v (tx c n e p) = _
      generalize lq_2 (lb_X3_readNumber_13 fu (nI d) (nI s0)) f = rc at ih ⊢
      unfold lb_X3_readNumber_13
      simp only [nm_d, e_isDigit, bd_s, bf]
      rw [show X_po (tx c n e p) = nI p from rfl, show X_ln (tx c n e p) = nI n from rfl, show X_ch (tx c n e p) = c from rfl]
      by_cases h : n ≤ p
      · rw [if_pos (n_le' (by omega) (by omega) h), rd_x (fun x => by omega)]
      · rw [if_neg (n_nle (by omega) (by omega) (by omega)), n_a]
        by_cases hk : k = 0
        · subst hk
          rw [if_pos (n_le' (by omega) (by omega) (by omega))]
          rfl
        · obtain ⟨k, rfl⟩ : ∃ k', k = k' + 1 := ⟨k - 1, by omega⟩
          rw [if_neg (n_nle (by omega) (by omega) (by omega)), ix_n (by omega) (by omega), ix_n (by omega) (by omega), n_cl (by omega)]
          cases hg : dgB (c p) with
          | false =>
            rw [if_pos rfl, rd_x (fun x => by rw [hg] at x; exact absurd x.2 (by decide))]
          | true =>
            rw [if_neg (by decide), rd_s ⟨by omega, hg⟩, n_p1, Int32.mul_comm v 10]
            exact ih k (p + 1) _ (by omega) (by omega) (by omega)
  exact key fu d s0 0 (by omega) hp (by omega)
theorem e_inB {fu : Nat} {c : Nat → Int32} {n k : Nat} {m : TM} (hX : HX c n m) (hk : k < n) : f_X5_in fu (M_tx m k) (48 : Int32) (57 : Int32) = some (dgB (c k)) := by
  rw [e_in]
  congr 1
  have h := (HX_b hX hk).2.2.2.1
  unfold dgP at h
  unfold dgB
  exact decide_eq_decide.mpr h
theorem e_rdM {fu : Nat} {c s : Nat → Int32} {n d s0 : Nat} {m : TM} {v0 : Int32} (hX : HX c n m) (hd : d ≤ 9) (hp : s0 ≤ n) (hfu : 2000 ≤ fu) : lf_X5_reads_27 fu (nI d) (nI s0) fu (mm m s s0 v0) = some (mm m s (rd c n d s0 v0).1 (rd c n d s0 v0).2) := by
  have hn := hX.1
  have key : ∀ (f k p : Nat) (v : Int32), s0 ≤ p → p + k = s0 + d → p ≤ n → n - p < f → lq_1 (lb_X5_reads_27 fu (nI d) (nI s0)) f (mm m s p v) = some (mm m s (rd c n k p v).1 (rd c n k p v).2) := by
    intro f
    induction f with
    | zero => intro k p v h00 h0 h1 h2; omega
    | succ f ih =>
      intro k p v h00 h0 h1 h2
      show lb_X5_reads_27 fu (nI d) (nI s0) (lq_1 (lb_X5_reads_27 fu (nI d) (nI s0)) f) (mm m s p v) = _
      generalize lq_1 (lb_X5_reads_27 fu (nI d) (nI s0)) f = rc at ih ⊢
      unfold lb_X5_reads_27
      simp only [nm_d, bf]
      rw [mm_at, mm_ty, hX.2.1, mm_tx, mm_nu]
      by_cases h : n ≤ p
      · rw [if_pos (n_le' (by omega) (by omega) h), rd_x (fun x => by omega)]
      · rw [if_neg (n_nle (by omega) (by omega) (by omega)), n_s h00]
        by_cases hk : k = 0
        · subst hk
          rw [if_pos (n_le' (by omega) (by omega) (by omega))]
          rfl
        · obtain ⟨k, rfl⟩ : ∃ k', k = k' + 1 := ⟨k - 1, by omega⟩
          rw [if_neg (n_nle (by omega) (by omega) (by omega)), ix_n (by omega) (by omega), n_cl (by omega), e_inB hX (by omega), bd_s]
          cases hg : dgB (c p) with
          | false =>
            rw [if_pos rfl, rd_x (fun x => by rw [hg] at x; exact absurd x.2 (by decide))]
          | true =>
            have hb := (HX_b hX (show p < n by omega)).2.2.2.2 (by
              unfold dgB at hg
              rw [decide_eq_true_eq] at hg
              exact hg)
            rw [if_neg (by decide), ix_n (by omega) (by omega), rd_s ⟨by omega, hg⟩, hb]
            rw [mm_nu_, mm_at, n_p1, mm_at_]
            exact ih k (p + 1) _ (by omega) (by omega) (by omega) (by omega)
  exact key fu d s0 v0 (Nat.le_refl _) (by omega) hp (by omega)
