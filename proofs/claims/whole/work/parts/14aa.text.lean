def tx (c : Nat → Int32) (n : Nat) (e : Int32) (p : Nat) : TX := (c, nI n, e, nI p)
def mm (m : TM) (s : Nat → Int32) (p : Nat) (v : Int32) : TM := (s, m.2.1, m.2.2.1, m.2.2.2.1, m.2.2.2.2.1, m.2.2.2.2.2.1, m.2.2.2.2.2.2.1, m.2.2.2.2.2.2.2.1, m.2.2.2.2.2.2.2.2.1, m.2.2.2.2.2.2.2.2.2.1, nI p, v)
theorem mm_ss (m : TM) (s : Nat → Int32) (p : Nat) (v : Int32) : M_ss (mm m s p v) = s := rfl
theorem mm_as (m : TM) (s : Nat → Int32) (p : Nat) (v : Int32) : M_as (mm m s p v) = M_as m := rfl
theorem mm_tx (m : TM) (s : Nat → Int32) (p : Nat) (v : Int32) : M_tx (mm m s p v) = M_tx m := rfl
theorem mm_ty (m : TM) (s : Nat → Int32) (p : Nat) (v : Int32) : M_ty (mm m s p v) = M_ty m := rfl
theorem mm_at (m : TM) (s : Nat → Int32) (p : Nat) (v : Int32) : M_at (mm m s p v) = nI p := rfl
theorem mm_nu (m : TM) (s : Nat → Int32) (p : Nat) (v : Int32) : M_nu (mm m s p v) = v := rfl
theorem mm_ss_ (m : TM) (s t : Nat → Int32) (p : Nat) (v : Int32) : M_ss_ (mm m s p v) t = mm m t p v := rfl
theorem mm_at_ (m : TM) (s : Nat → Int32) (p q : Nat) (v : Int32) : M_at_ (mm m s p v) (nI q) = mm m s q v := rfl
theorem mm_nu_ (m : TM) (s : Nat → Int32) (p : Nat) (v x : Int32) : M_nu_ (mm m s p v) x = mm m s p x := rfl
def skf (c : Nat → Int32) (n : Nat) : Nat → Nat → Nat
  | 0, p => p
  | d + 1, p => if p < n ∧ c p = 32 then skf c n d (p + 1) else p
def sk (c : Nat → Int32) (n p : Nat) : Nat := skf c n (n - p) p
theorem sk_i {c : Nat → Int32} {n p : Nat} (h : p < n) : sk c n p = if c p = 32 then sk c n (p + 1) else p := by
  unfold sk
  obtain ⟨d, hd⟩ : ∃ d, n - p = d + 1 := ⟨n - p - 1, by omega⟩
  rw [hd, show n - (p + 1) = d by omega]
  show (if p < n ∧ c p = 32 then skf c n d (p + 1) else p) = _
  by_cases e : c p = 32
  · rw [if_pos ⟨h, e⟩, if_pos e]
  · rw [if_neg (fun x => e x.2), if_neg e]
theorem sk_n {c : Nat → Int32} {n p : Nat} (h : n ≤ p) : sk c n p = p := by
  unfold sk
  rw [show n - p = 0 by omega]
  rfl
theorem sk_rg {c : Nat → Int32} {n : Nat} : ∀ k p : Nat, n - p ≤ k → p ≤ n → p ≤ sk c n p ∧ sk c n p ≤ n := by
  intro k
  induction k with
  | zero =>
    intro p h1 h2
    rw [sk_n (by omega)]
    omega
  | succ k ih =>
    intro p h1 h2
    by_cases h : n ≤ p
    · rw [sk_n h]
      omega
    · rw [sk_i (by omega)]
      by_cases e : c p = 32
      · rw [if_pos e]
        have := ih (p + 1) (by omega) (by omega)
        omega
      · rw [if_neg e]
        omega
theorem sk_r {c : Nat → Int32} {n p : Nat} (h : p ≤ n) : p ≤ sk c n p ∧ sk c n p ≤ n := sk_rg (n - p) p (Nat.le_refl _) h
theorem e_skip {fu : Nat} {c : Nat → Int32} {n p : Nat} {e : Int32} (hn : n ≤ 100) (hp : p ≤ n) (hfu : 2000 ≤ fu) : f_X3_skipSpaces fu (tx c n e p) = some (tx c n e (sk c n p)) := by
  have key : ∀ f p : Nat, p ≤ n → n - p < f → lq_1 (lb_X3_skipSpaces_0 fu) f (tx c n e p) = some (tx c n e (sk c n p)) := by
    intro f
    induction f with
    | zero => intro p h1 h2; omega
    | succ f ih =>
      intro p h1 h2
      show lb_X3_skipSpaces_0 fu (lq_1 (lb_X3_skipSpaces_0 fu) f) (tx c n e p) = _
      generalize lq_1 (lb_X3_skipSpaces_0 fu) f = rc at ih ⊢
      unfold lb_X3_skipSpaces_0
      simp only [nm_d]
      rw [show X_po (tx c n e p) = nI p from rfl, show X_ln (tx c n e p) = nI n from rfl, show X_ch (tx c n e p) = c from rfl]
      by_cases h : n ≤ p
      · rw [if_pos (n_le' (by omega) (by omega) h), sk_n h]
      · rw [if_neg (n_nle (by omega) (by omega) (by omega)), ix_n (by omega) (by omega), n_cl (by omega), sk_i (by omega)]
        by_cases e1 : c p = 32
        · rw [if_neg (fun x => x e1), if_pos e1, n_p1]
          exact ih (p + 1) (by omega) (by omega)
        · rw [if_pos e1, if_neg e1]
  unfold f_X3_skipSpaces
  rw [show lf_X3_skipSpaces_0 fu fu (tx c n e p) = _ from key fu p hp (by omega)]
  rfl
