/-! the text -/
def dgP (x : Int32) : Prop := (48 : Int32).toInt ≤ x.toInt ∧ x.toInt ≤ (57 : Int32).toInt
theorem by_all : ∀ j : Nat, j < 256 → ((nI j).toInt8.toInt32 = 32 ↔ nI j = 32) ∧ ((nI j).toInt8.toInt32 = 48 ↔ nI j = 48) ∧ ((nI j).toInt8.toInt32 &&& 255) = nI j ∧ (((48 : Int32).toInt ≤ ((nI j).toInt8.toInt32).toInt ∧ ((nI j).toInt8.toInt32).toInt ≤ (57 : Int32).toInt) ↔ ((48 : Int32).toInt ≤ (nI j).toInt ∧ (nI j).toInt ≤ (57 : Int32).toInt)) ∧ (((48 : Int32).toInt ≤ (nI j).toInt ∧ (nI j).toInt ≤ (57 : Int32).toInt) → (nI j).toInt8.toInt32 = nI j) := by decide +kernel
def HX (c : Nat → Int32) (n : Nat) (m : TM) : Prop := n ≤ 100 ∧ M_ty m = nI n ∧ ∀ k, k < n → rg (c k) 0 255 ∧ M_tx m k = (c k).toInt8.toInt32
theorem HX_b {c : Nat → Int32} {n k : Nat} {m : TM} (h : HX c n m) (hk : k < n) : (M_tx m k = 32 ↔ c k = 32) ∧ (M_tx m k = 48 ↔ c k = 48) ∧ (M_tx m k &&& 255) = c k ∧ (dgP (M_tx m k) ↔ dgP (c k)) ∧ (dgP (c k) → M_tx m k = c k) := by
  obtain ⟨h1, h2, h3⟩ := h
  obtain ⟨⟨a, b⟩, e⟩ := h3 k hk
  obtain ⟨j, ej, ej2, -⟩ := i_of (x := c k) a
  rw [e, ej]
  exact by_all j (by omega)
def tx (c : Nat → Int32) (n : Nat) (e : Int32) (p : Nat) : TX := (c, nI n, e, nI p)
def mm (m : TM) (s : Nat → Int32) (p : Nat) (v : Int32) : TM := M_nu_ (M_at_ (M_ss_ m s) (nI p)) v
def skf (c : Nat → Int32) (n : Nat) : Nat → Nat → Nat
  | 0, p => p
  | d + 1, p => if p < n ∧ c p = 32 then skf c n d (p + 1) else p
def sk (c : Nat → Int32) (n p : Nat) : Nat := skf c n (n - p) p
theorem sk_i {c : Nat → Int32} {n p : Nat} (h : p < n) : sk c n p = if c p = 32 then sk c n (p + 1) else p := by
  unfold sk
  obtain ⟨d, hd⟩ : ∃ d, n - p = d + 1 := ⟨n - p - 1, by omega⟩
  rw [hd, show n - (p + 1) = d by omega]
  show (if p < n ∧ c p = 32 then skf c n d (p + 1) else p) = _
  by_cases e : c p = 32
  · rw [if_pos ⟨h, e⟩, if_pos e]
  · rw [if_neg (fun x => e x.2), if_neg e]
theorem sk_n {c : Nat → Int32} {n p : Nat} (h : n ≤ p) : sk c n p = p := by
  unfold sk
  rw [show n - p = 0 by omega]
  rfl
theorem sk_rg {c : Nat → Int32} {n : Nat} : ∀ k p : Nat, n - p ≤ k → p ≤ n → p ≤ sk c n p ∧ sk c n p ≤ n := by
  intro k
  induction k with
  | zero =>
    intro p h1 h2
    rw [sk_n (by omega)]
    omega
  | succ k ih =>
    intro p h1 h2
    by_cases h : n ≤ p
    · rw [sk_n h]
      omega
    · rw [sk_i (by omega)]
      by_cases e : c p = 32
      · rw [if_pos e]
        have := ih (p + 1) (by omega) (by omega)
        omega
      · rw [if_neg e]
        omega
theorem sk_r {c : Nat → Int32} {n p : Nat} (h : p ≤ n) : p ≤ sk c n p ∧ sk c n p ≤ n := sk_rg (n - p) p (Nat.le_refl _) h
theorem e_skip {fu : Nat} {c : Nat → Int32} {n p : Nat} {e : Int32} (hn : n ≤ 100) (hp : p ≤ n) (hfu : 2000 ≤ fu) : f_X3_skipSpaces fu (tx c n e p) = some (tx c n e (sk c n p)) := by
  have key : ∀ f p : Nat, p ≤ n → n - p < f → lq_1 (lb_X3_skipSpaces_0 fu) f (tx c n e p) = some (tx c n e (sk c n p)) := by
    intro f
    induction f with
    | zero => intro p h1 h2; omega
    | succ f ih =>
      intro p h1 h2
      show lb_X3_skipSpaces_0 fu (lq_1 (lb_X3_skipSpaces_0 fu) f) (tx c n e p) = _
      generalize lq_1 (lb_X3_skipSpaces_0 fu) f = rc at ih ⊢
      unfold lb_X3_skipSpaces_0
      simp only [nm_d]
      rw [show X_po (tx c n e p) = nI p from rfl, show X_ln (tx c n e p) = nI n from rfl, show X_ch (tx c n e p) = c from rfl]
      by_cases h : n ≤ p
      · rw [if_pos (n_le' (by omega) (by omega) h), sk_n h]
      · rw [if_neg (n_nle (by omega) (by omega) (by omega)), ix_n (by omega) (by omega), n_cl (by omega), sk_i (by omega)]
        by_cases e1 : c p = 32
        · rw [if_neg (fun x => x e1), if_pos e1, n_p1]
          exact ih (p + 1) (by omega) (by omega)
        · rw [if_pos e1, if_neg e1]
  unfold f_X3_skipSpaces
  rw [show lf_X3_skipSpaces_0 fu fu (tx c n e p) = _ from key fu p hp (by omega)]
  rfl
theorem e_here {fu : Nat} {c s : Nat → Int32} {n p : Nat} {m : TM} {v : Int32} (hX : HX c n m) (hp : p ≤ n) (hfu : 2000 ≤ fu) : f_X5_here fu (mm m s p v) = some (if sk c n p < n then c (sk c n p) else -1, mm m s (sk c n p) v) := by
  have hn := hX.1
  have key : ∀ f p : Nat, p ≤ n → n - p < f → lq_1 (lb_X5_here_0 fu) f (mm m s p v) = some (mm m s (sk c n p) v) := by
    intro f
    induction f with
    | zero => intro p h1 h2; omega
    | succ f ih =>
      intro p h1 h2
      show lb_X5_here_0 fu (lq_1 (lb_X5_here_0 fu) f) (mm m s p v) = _
      generalize lq_1 (lb_X5_here_0 fu) f = rc at ih ⊢
      unfold lb_X5_here_0
      simp only [nm_d]
      rw [show M_at (mm m s p v) = nI p from rfl, show M_ty (mm m s p v) = nI n from hX.2.1, show M_tx (mm m s p v) = M_tx m from rfl]
      by_cases h : n ≤ p
      · rw [if_pos (n_le' (by omega) (by omega) h), sk_n h]
      · rw [if_neg (n_nle (by omega) (by omega) (by omega)), ix_n (by omega) (by omega), n_cl (by omega), sk_i (by omega)]
        have hb := (HX_b hX (show p < n by omega)).1
        by_cases e1 : c p = 32
        · rw [if_neg (fun x => x (hb.mpr e1)), if_pos e1, n_p1]
          exact ih (p + 1) (by omega) (by omega)
        · rw [if_pos (show ¬ M_tx m p = 32 from fun x => e1 (hb.mp x)), if_neg e1]
  obtain ⟨r1, r2⟩ := sk_r (c := c) hp
  unfold f_X5_here
  rw [show lf_X5_here_0 fu fu (mm m s p v) = _ from key fu p hp (by omega), bd_s]
  simp only [nm_d]
  rw [show M_at (mm m s (sk c n p) v) = nI (sk c n p) from rfl, show M_ty (mm m s (sk c n p) v) = nI n from hX.2.1, show M_tx (mm m s (sk c n p) v) = M_tx m from rfl]
  by_cases h : sk c n p < n
  · rw [if_neg (n_nle (by omega) (by omega) h), ix_n (by omega) (by omega), n_cl (by omega), if_pos h, (HX_b hX h).2.2.1]
  · rw [if_pos (n_le' (by omega) (by omega) (by omega)), if_neg h]
def tb (c : Nat → Int32) (n p : Nat) (w : Int32) : Bool := decide (sk c n p < n ∧ c (sk c n p) = w)
def tp (c : Nat → Int32) (n p : Nat) (w : Int32) : Nat := if tb c n p w = true then sk c n p + 1 else sk c n p
theorem tp_r {c : Nat → Int32} {n p : Nat} {w : Int32} (h : p ≤ n) : p ≤ tp c n p w ∧ tp c n p w ≤ n := by
  obtain ⟨r1, r2⟩ := sk_r (c := c) h
  unfold tp
  by_cases e : tb c n p w = true
  · have e2 := e
    unfold tb at e2
    rw [decide_eq_true_eq] at e2
    rw [if_pos e]
    omega
  · rw [if_neg e]
    omega
theorem e_takesC {fu : Nat} {c : Nat → Int32} {n p : Nat} {e w : Int32} (hn : n ≤ 100) (hp : p ≤ n) (hfu : 2000 ≤ fu) : f_X3_takes fu (tx c n e p) w = some (tb c n p w, tx c n e (tp c n p w)) := by
  obtain ⟨r1, r2⟩ := sk_r (c := c) hp
  unfold f_X3_takes
  rw [e_skip hn hp hfu, bd_s]
  simp only [nm_d]
  rw [show X_po (tx c n e (sk c n p)) = nI (sk c n p) from rfl, show X_ln (tx c n e (sk c n p)) = nI n from rfl, show X_ch (tx c n e (sk c n p)) = c from rfl]
  unfold tp
  by_cases h : sk c n p < n
  · rw [if_neg (n_nle (by omega) (by omega) h), ix_n (by omega) (by omega), n_cl (by omega)]
    by_cases e1 : c (sk c n p) = w
    · have t : tb c n p w = true := decide_eq_true ⟨h, e1⟩
      rw [if_pos e1, t, if_pos rfl, n_p1]
      rfl
    · have t : tb c n p w = false := decide_eq_false (fun x => e1 x.2)
      rw [if_neg e1, t, if_neg (by decide)]
  · have t : tb c n p w = false := decide_eq_false (fun x => h x.1)
    rw [if_pos (n_le' (by omega) (by omega) (by omega)), t, if_neg (by decide)]
theorem zb_0 {α : Type} (k : Bool → Option α) : zb (0 : Int32) k = k false := rfl
theorem zb_1 {α : Type} (k : Bool → Option α) : zb (1 : Int32) k = k true := rfl
theorem e_takesM {fu : Nat} {c s : Nat → Int32} {n p : Nat} {m : TM} {v w : Int32} (hX : HX c n m) (hp : p ≤ n) (hw : ¬ (-1 : Int32) = w) (hfu : 2000 ≤ fu) : f_X5_takes fu (mm m s p v) w = some (tb c n p w, mm m s (tp c n p w) v) := by
  unfold f_X5_takes
  rw [e_here hX hp hfu, bd_s, jn_e]
  dsimp only
  unfold tp
  by_cases h : sk c n p < n ∧ c (sk c n p) = w
  · have t : tb c n p w = true := decide_eq_true h
    rw [t, if_pos rfl, if_pos h.1, if_neg (fun x => x h.2), nm_d, if_neg (show ¬ (1 : Int32) = 0 by decide), nm_d, nm_d, zb_1, show M_at (mm m s (sk c n p) v) = nI (sk c n p) from rfl, n_p1]
    rfl
  · have t : tb c n p w = false := decide_eq_false h
    have ne : ¬ (if sk c n p < n then c (sk c n p) else (-1 : Int32)) = w := by
      by_cases h1 : sk c n p < n
      · rw [if_pos h1]
        exact fun x => h ⟨h1, x⟩
      · rw [if_neg h1]
        exact hw
    rw [t, if_neg (show ¬ false = true by decide), if_pos ne, nm_d, if_pos (show (0 : Int32) = 0 from rfl), nm_d, nm_d, zb_0, show M_at (mm m s (sk c n p) v) = nI (sk c n p) from rfl, n_p0]
    rfl
theorem e_expects {fu : Nat} {c : Nat → Int32} {n p : Nat} {e w : Int32} (hn : n ≤ 100) (hp : p ≤ n) (hfu : 2000 ≤ fu) : f_X3_expects fu (tx c n e p) w = some (tb c n p w, tx c n (if tb c n p w = true then e else nI (tp c n p w)) (tp c n p w)) := by
  unfold f_X3_expects
  rw [e_takesC hn hp hfu, bd_s]
  dsimp only
  cases t : tb c n p w with
  | true =>
    rw [if_neg (show ¬ bI true = 0 by decide), if_pos rfl]
  | false =>
    rw [if_pos (show bI false = 0 from rfl), if_neg (show ¬ false = true by decide), nm_d]
    rfl
/-- digits -/
def dgB (x : Int32) : Bool := decide ((48 : Int32).toInt ≤ x.toInt ∧ x.toInt ≤ (57 : Int32).toInt)
def rd (c : Nat → Int32) (n : Nat) : Nat → Nat → Int32 → Nat × Int32
  | 0, p, v => (p, v)
  | d + 1, p, v => if p < n ∧ dgB (c p) = true then rd c n d (p + 1) (10 * v + c p - 48) else (p, v)
theorem rd_x {c : Nat → Int32} {n p : Nat} {v : Int32} (h : ¬ (p < n ∧ dgB (c p) = true)) : ∀ d : Nat, rd c n d p v = (p, v)
  | 0 => rfl
  | _ + 1 => if_neg h
theorem rd_s {c : Nat → Int32} {n p d : Nat} {v : Int32} (h : p < n ∧ dgB (c p) = true) : rd c n (d + 1) p v = rd c n d (p + 1) (10 * v + c p - 48) := if_pos h
theorem rd_r {c : Nat → Int32} {n : Nat} : ∀ (d p : Nat) (v : Int32), p ≤ n → p ≤ (rd c n d p v).1 ∧ (rd c n d p v).1 ≤ n
  | 0, p, v, h => ⟨Nat.le_refl p, h⟩
  | d + 1, p, v, h => by
    by_cases e : p < n ∧ dgB (c p) = true
    · rw [rd_s e]
      have := rd_r d (p + 1) (10 * v + c p - 48) (by omega)
      omega
    · rw [rd_x e]
      exact ⟨Nat.le_refl p, h⟩
theorem rd_1 {c : Nat → Int32} {n d p : Nat} {v : Int32} (hd : 1 ≤ d) (hp : p ≤ n) : (rd c n d p v).1 = p ↔ ¬ (p < n ∧ dgB (c p) = true) := by
  obtain ⟨d, rfl⟩ : ∃ d', d = d' + 1 := ⟨d - 1, by omega⟩
  constructor
  · intro h e
    rw [rd_s e] at h
    have := (rd_r (c := c) (n := n) d (p + 1) (10 * v + c p - 48) (by omega)).1
    omega
  · intro h
    rw [rd_x h]
theorem e_isDigit (fu : Nat) (x : Int32) : f_X3_isDigit fu x = some (dgB x) := by
  unfold f_X3_isDigit
  rw [e_within]
  rfl
theorem e_rdC {fu : Nat} {c : Nat → Int32} {n d s0 : Nat} {e : Int32} (hn : n ≤ 100) (hd : d ≤ 9) (hp : s0 ≤ n) (hfu : 2000 ≤ fu) : lf_X3_readNumber_13 fu (nI d) (nI s0) fu (0 : Int32) (tx c n e s0) = some ((rd c n d s0 0).2, tx c n e (rd c n d s0 0).1) := by
  have key : ∀ (f k p : Nat) (v : Int32), p + k = s0 + d → p ≤ n → n - p < f → lq_2 (lb_X3_readNumber_13 fu (nI d) (nI s0)) f v (tx c n e p) = some ((rd c n k p v).2, tx c n e (rd c n k p v).1) := by
    intro f
    induction f with
    | zero => intro k p v h0 h1 h2; omega
    | succ f ih =>
      intro k p v h0 h1 h2
      show lb_X3_readNumber_13 fu (nI d) (nI s0) (lq_2 (lb_X3_readNumber_13 fu (nI d) (nI s0)) f) v (tx c n e p) = _
      generalize lq_2 (lb_X3_readNumber_13 fu (nI d) (nI s0)) f = rc at ih ⊢
      unfold lb_X3_readNumber_13
      simp only [nm_d, e_isDigit, bd_s, bf]
      rw [show X_po (tx c n e p) = nI p from rfl, show X_ln (tx c n e p) = nI n from rfl, show X_ch (tx c n e p) = c from rfl]
      by_cases h : n ≤ p
      · rw [if_pos (n_le' (by omega) (by omega) h), rd_x (fun x => by omega)]
      · rw [if_neg (n_nle (by omega) (by omega) (by omega)), n_a]
        by_cases hk : k = 0
        · subst hk
          rw [if_pos (n_le' (by omega) (by omega) (by omega))]
          rfl
        · obtain ⟨k, rfl⟩ : ∃ k', k = k' + 1 := ⟨k - 1, by omega⟩
          rw [if_neg (n_nle (by omega) (by omega) (by omega)), ix_n (by omega) (by omega), ix_n (by omega) (by omega), n_cl (by omega)]
          cases hg : dgB (c p) with
          | false =>
            rw [if_pos rfl, rd_x (fun x => by rw [hg] at x; exact absurd x.2 (by decide))]
          | true =>
            rw [if_neg (by decide), rd_s ⟨by omega, hg⟩, n_p1, Int32.mul_comm v 10]
            exact ih k (p + 1) _ (by omega) (by omega) (by omega)
  exact key fu d s0 0 (by omega) hp (by omega)
theorem e_inB {fu : Nat} {c : Nat → Int32} {n k : Nat} {m : TM} (hX : HX c n m) (hk : k < n) : f_X5_in fu (M_tx m k) (48 : Int32) (57 : Int32) = some (dgB (c k)) := by
  rw [e_in]
  congr 1
  have h := (HX_b hX hk).2.2.2.1
  unfold dgP at h
  unfold dgB
  exact decide_eq_decide.mpr h
theorem e_rdM {fu : Nat} {c s : Nat → Int32} {n d s0 : Nat} {m : TM} {v0 : Int32} (hX : HX c n m) (hd : d ≤ 9) (hp : s0 ≤ n) (hfu : 2000 ≤ fu) : lf_X5_reads_27 fu (nI d) (nI s0) fu (mm m s s0 v0) = some (mm m s (rd c n d s0 v0).1 (rd c n d s0 v0).2) := by
  have hn := hX.1
  have key : ∀ (f k p : Nat) (v : Int32), s0 ≤ p → p + k = s0 + d → p ≤ n → n - p < f → lq_1 (lb_X5_reads_27 fu (nI d) (nI s0)) f (mm m s p v) = some (mm m s (rd c n k p v).1 (rd c n k p v).2) := by
    intro f
    induction f with
    | zero => intro k p v h00 h0 h1 h2; omega
    | succ f ih =>
      intro k p v h00 h0 h1 h2
      show lb_X5_reads_27 fu (nI d) (nI s0) (lq_1 (lb_X5_reads_27 fu (nI d) (nI s0)) f) (mm m s p v) = _
      generalize lq_1 (lb_X5_reads_27 fu (nI d) (nI s0)) f = rc at ih ⊢
      unfold lb_X5_reads_27
      simp only [nm_d, bf]
      rw [show M_at (mm m s p v) = nI p from rfl, show M_ty (mm m s p v) = nI n from hX.2.1, show M_tx (mm m s p v) = M_tx m from rfl, show M_nu (mm m s p v) = v from rfl]
      by_cases h : n ≤ p
      · rw [if_pos (n_le' (by omega) (by omega) h), rd_x (fun x => by omega)]
      · rw [if_neg (n_nle (by omega) (by omega) (by omega)), n_s h00]
        by_cases hk : k = 0
        · subst hk
          rw [if_pos (n_le' (by omega) (by omega) (by omega))]
          rfl
        · obtain ⟨k, rfl⟩ : ∃ k', k = k' + 1 := ⟨k - 1, by omega⟩
          rw [if_neg (n_nle (by omega) (by omega) (by omega)), ix_n (by omega) (by omega), n_cl (by omega), e_inB hX (by omega), bd_s]
          cases hg : dgB (c p) with
          | false =>
            rw [if_pos rfl, rd_x (fun x => by rw [hg] at x; exact absurd x.2 (by decide))]
          | true =>
            have hb := (HX_b hX (show p < n by omega)).2.2.2.2 (by
              unfold dgB at hg
              rw [decide_eq_true_eq] at hg
              exact hg)
            rw [if_neg (by decide), ix_n (by omega) (by omega), rd_s ⟨by omega, hg⟩, hb]
            rw [show M_at (M_nu_ (mm m s p v) (10 * v + c p - 48)) = nI p from rfl, n_p1]
            exact ih k (p + 1) _ (by omega) (by omega) (by omega) (by omega)
  exact key fu d s0 v0 (Nat.le_refl _) (by omega) hp (by omega)
def okN (c : Nat → Int32) (n d p : Nat) (lo hi : Int32) : Bool := decide ((rd c n d (sk c n p) 0).1 ≠ sk c n p ∧ ¬ (sk c n p + 1 < (rd c n d (sk c n p) 0).1 ∧ c (sk c n p) = 48) ∧ lo.toInt ≤ (rd c n d (sk c n p) 0).2.toInt ∧ (rd c n d (sk c n p) 0).2.toInt ≤ hi.toInt)
theorem e_readC {fu : Nat} {c : Nat → Int32} {n d p : Nat} {e dd lo hi : Int32} (hn : n ≤ 100) (hdd : dd = nI d) (h1 : 1 ≤ d) (hd : d ≤ 9) (hp : p ≤ n) (hfu : 2000 ≤ fu) :
    f_X3_readNumber fu (tx c n e p) dd lo hi = some (if okN c n d p lo hi = true then ((rd c n d (sk c n p) 0).2, tx c n e (rd c n d (sk c n p) 0).1) else ((-1 : Int32), tx c n (nI (sk c n p)) (rd c n d (sk c n p) 0).1)) := by
  subst hdd
  obtain ⟨r1, r2⟩ := sk_r (c := c) hp
  obtain ⟨q1, q2⟩ := rd_r (c := c) (n := n) d (sk c n p) 0 r2
  unfold f_X3_readNumber f_X3_fail
  rw [e_skip hn hp hfu, bd_s, nm_d, show X_po (tx c n e (sk c n p)) = nI (sk c n p) from rfl, e_rdC hn hd r2 hfu, bd_s]
  simp only [nm_d, jn_e, e_within, bd_s, bf]
  rw [show X_po (tx c n e (rd c n d (sk c n p) 0).1) = nI (rd c n d (sk c n p) 0).1 from rfl, show X_ch (tx c n e (rd c n d (sk c n p) 0).1) = c from rfl, n_p1]
  unfold okN
  generalize hS : sk c n p = S at r1 r2 q1 q2 ⊢
  generalize rd c n d S 0 = R at q1 q2 ⊢
  by_cases a1 : R.1 = S
  · rw [if_neg (fun x => x (by rw [a1])), if_neg (by rw [decide_eq_true_eq]; exact fun x => x.1 a1)]
    rfl
  · rw [if_pos (show ¬ nI R.1 = nI S from fun x => a1 ((n_eq (by omega) (by omega)).mp x))]
    by_cases a2 : S + 1 < R.1
    · rw [if_neg (n_nle (by omega) (by omega) a2), ix_n (by omega) (by omega), n_cl (by omega)]
      by_cases a3 : c S = 48
      · rw [if_pos a3, if_neg (by rw [decide_eq_true_eq]; exact fun x => x.2.1 ⟨a2, a3⟩)]
        rfl
      · rw [if_neg a3]
        by_cases a4 : lo.toInt ≤ R.2.toInt ∧ R.2.toInt ≤ hi.toInt
        · rw [decide_eq_true a4, if_pos (by decide), if_pos (by rw [decide_eq_true_eq]; exact ⟨a1, fun x => a3 x.2, a4⟩)]
        · rw [decide_eq_false a4, if_neg (by decide), if_neg (by rw [decide_eq_true_eq]; exact fun x => a4 x.2.2)]
          rfl
    · rw [if_pos (n_le' (by omega) (by omega) (by omega))]
      by_cases a4 : lo.toInt ≤ R.2.toInt ∧ R.2.toInt ≤ hi.toInt
      · rw [decide_eq_true a4, if_pos (by decide), if_pos (by rw [decide_eq_true_eq]; exact ⟨a1, fun x => a2 x.1, a4⟩)]
      · rw [decide_eq_false a4, if_neg (by decide), if_neg (by rw [decide_eq_true_eq]; exact fun x => a4 x.2.2)]
        rfl
theorem e_readM {fu : Nat} {c s : Nat → Int32} {n d p : Nat} {m : TM} {v dd lo hi : Int32} (hX : HX c n m) (hdd : dd = nI d) (h1 : 1 ≤ d) (hd : d ≤ 9) (hp : p ≤ n) (hfu : 2000 ≤ fu) :
    ∃ v', f_X5_reads fu (mm m s p v) dd lo hi = some (if okN c n d p lo hi = true then (true, mm m s (rd c n d (sk c n p) 0).1 (rd c n d (sk c n p) 0).2) else (false, mm m s (sk c n p) v')) := by
  subst hdd
  have hn := hX.1
  obtain ⟨r1, r2⟩ := sk_r (c := c) hp
  obtain ⟨q1, q2⟩ := rd_r (c := c) (n := n) d (sk c n p) 0 r2
  have k1 := rd_1 (c := c) (n := n) (d := d) (p := sk c n p) (v := 0) h1 r2
  have m1 := fun v0 => e_rdM (fu := fu) (s := s) (d := d) (s0 := sk c n p) (v0 := v0) hX hd r2 hfu
  unfold f_X5_reads
  rw [e_here hX hp hfu, bd_s]
  unfold okN
  have hS0 : sk c n p < n → (M_tx m (sk c n p) = 48 ↔ c (sk c n p) = 48) := fun h => (HX_b hX h).2.1
  generalize hS : sk c n p = S at r1 r2 q1 q2 k1 m1 hS0 ⊢
  by_cases a1 : (rd c n d S 0).1 = S
  · have a2 := k1.mp a1
    have hin : f_X5_in fu (if S < n then c S else -1, mm m s S v).1 (48 : Int32) (57 : Int32) = some false := by
      rw [e_in]
      congr 1
      show decide ((48 : Int32).toInt ≤ (if S < n then c S else (-1 : Int32)).toInt ∧ (if S < n then c S else (-1 : Int32)).toInt ≤ (57 : Int32).toInt) = false
      by_cases h : S < n
      · rw [if_pos h]
        exact decide_eq_false (fun x => a2 ⟨h, decide_eq_true x⟩)
      · rw [if_neg h]
        decide
    refine ⟨v, ?_⟩
    rw [hin, bd_s, if_neg (show ¬ ¬ bI false = 0 by decide), if_neg (by rw [decide_eq_true_eq]; exact fun x => x.1 a1)]
  · have a2 : S < n ∧ dgB (c S) = true := Classical.byContradiction (fun x => a1 (k1.mpr x))
    have hin : f_X5_in fu (if S < n then c S else -1, mm m s S v).1 (48 : Int32) (57 : Int32) = some true := by
      rw [e_in]
      congr 1
      show decide ((48 : Int32).toInt ≤ (if S < n then c S else (-1 : Int32)).toInt ∧ (if S < n then c S else (-1 : Int32)).toInt ≤ (57 : Int32).toInt) = true
      rw [if_pos a2.1]
      exact a2.2
    have hm := m1 0
    refine ⟨(rd c n d S 0).2, ?_⟩
    rw [hin, bd_s, if_pos (show ¬ bI true = 0 by decide), nm_d, nm_d, show lf_X5_reads_27 fu (nI d) (M_at (if S < n then c S else (-1 : Int32), mm m s S v).2) fu (M_nu_ (if S < n then c S else (-1 : Int32), mm m s S v).2 (0 : Int32)) = _ from hm, bd_s]
    simp only [nm_d, e_in, bd_s, bf]
    generalize rd c n d S 0 = R at q1 q2 a1 ⊢
    rw [show M_nu (mm m s R.1 R.2) = R.2 from rfl, show M_tx (mm m s R.1 R.2) = M_tx m from rfl, show M_at (mm m s R.1 R.2) = nI R.1 from rfl, show M_at (mm m s S v) = nI S from rfl]
    by_cases a4 : lo.toInt ≤ R.2.toInt ∧ R.2.toInt ≤ hi.toInt
    · rw [decide_eq_true a4, if_neg (by decide), ix_n (by omega) (by omega), n_cl (by omega), n_p1]
      by_cases a3 : c S = 48
      · rw [if_neg (fun x => x ((hS0 a2.1).mpr a3))]
        by_cases a5 : S + 1 < R.1
        · rw [if_neg (n_nle (by omega) (by omega) a5), if_neg (by rw [decide_eq_true_eq]; exact fun x => x.2.1 ⟨a5, a3⟩)]
          rfl
        · rw [if_pos (n_le' (by omega) (by omega) (by omega)), if_pos (by rw [decide_eq_true_eq]; exact ⟨a1, fun x => a5 x.1, a4⟩)]
      · rw [if_pos (show ¬ M_tx m S = 48 from fun x => a3 ((hS0 a2.1).mp x)), if_pos (by rw [decide_eq_true_eq]; exact ⟨a1, fun x => a3 x.2, a4⟩)]
    · rw [decide_eq_false a4, if_pos rfl, if_neg (by rw [decide_eq_true_eq]; exact fun x => a4 x.2.2)]
      rfl
