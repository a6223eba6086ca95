/-! the best row -/
theorem TR_lv2 {u : TS} {s f : Nat → Int32} {i : Nat} (h : TR u s) (d : Nat) (hd : i + d ≤ 60) : TR (S_lv_ u (fl f (S_lv u) i d)) (fl f s (41 + i) d) := by
  induction d with
  | zero =>
    rw [fl_0, fl_0]
    exact h
  | succ d ih =>
    have h1 := TR_lv (i := i + d) (x := f d) (ih (by omega)) (by omega)
    rw [← Nat.add_assoc] at h1
    rw [← fl_s f (S_lv u) i d, ← fl_s f s (41 + i) d]
    exact h1
theorem TI_lv2 {u : TS} {f : Nat → Int32} {i d : Nat} (h : TI u) (hf : ∀ j, j < d → rg (f j) (-9999) 9999) : TI (S_lv_ u (fl f (S_lv u) i d)) := by
  obtain ⟨h0, h1, h2, h3, h4, h5⟩ := h
  refine ⟨h0, h1, fun k hk => ?_, h3, h4, h5⟩
  show rg (fl f (S_lv u) i d k) (-9999) 9999
  unfold fl
  by_cases e : i ≤ k ∧ k < i + d
  · rw [if_pos e]
    exact hf _ (by omega)
  · rw [if_neg e]
    exact h2 k hk
def lfz (u : TS) (i : Nat) (t : Int32) : Int32 := if S_nu u 7 ≤ lft u i t then lft u i t else 0
theorem lfz_rg {u : TS} {i : Nat} {t : Int32} (hI : TI u) (hi : i < 60) (ht : rg t (-9999) 9999) : rg (S_lv u i + lfz u i t) (-9999) 9999 := by
  unfold lfz
  by_cases c : S_nu u 7 ≤ lft u i t
  · rw [if_pos c]
    exact (lft_rg hI hi ht (by rw [i_lt]; rw [i_le] at c; omega)).2
  · rw [if_neg c, Int32.add_zero]
    exact hI.lv hi
def sv (he lv : Nat → Int32) : Nat → Int32
  | 0 => 0
  | k + 1 => sv he lv k + (he k - lv k)
theorem sv_c {he he' lv : Nat → Int32} {N : Nat} (h : ∀ t, t < N → he t = he' t) : ∀ k, k ≤ N → sv he lv k = sv he' lv k
  | 0, _ => rfl
  | k + 1, hk => by
    show sv he lv k + (he k - lv k) = sv he' lv k + (he' k - lv k)
    rw [sv_c h k (by omega), h k (by omega)]
theorem lft_c {u u' : TS} {i : Nat} {t : Int32} (h : S_lv u i = S_lv u' i) (h6 : S_nu u 6 = S_nu u' 6) : lft u i t = lft u' i t := by
  unfold lft
  rw [h, h6]
/-- the levels that a row would leave -/
def rf (W : TS) (first : Nat) (t : Int32) (j : Nat) : Int32 := S_lv W (first + j) + lfz W (first + j) t
theorem e_rowC {fu : Nat} {W : TS} {first len : Nat} {t : Int32} (hN : first + len ≤ 60) (hfu : 2000 ≤ fu) :
    lf_X4_voidsWithRow_29 fu (nI first) (nI len) t fu (nI first) W = some (S_lv_ W (fl (rf W first t) (S_lv W) first len)) := by
  have h := cp_loop2 (F := lb_X4_voidsWithRow_29 fu (nI first) (nI len) t) len (fun k => nI (first + k)) (fun k => S_lv_ W (fl (rf W first t) (S_lv W) first k)) (S_lv_ W (fl (rf W first t) (S_lv W) first len)) (fun rec => by
    unfold lb_X4_voidsWithRow_29
    rw [nm_d, n_a, if_pos (n_le' (by omega) (by omega) (Nat.le_refl _))]) (fun rec k hk => by
    unfold lb_X4_voidsWithRow_29
    simp only [nm_d]
    have l1 : S_lv (S_lv_ W (fl (rf W first t) (S_lv W) first k)) (first + k) = S_lv W (first + k) := fl_out (by omega)
    rw [n_a, if_neg (n_nle (by omega) (by omega) (by omega)), ix_n (by omega) (by omega), e_liftOf (by omega), bd_s, ix_n (by omega) (by omega), n_cl (by omega), l1, n_p1, lft_c (u := S_lv_ W (fl (rf W first t) (S_lv W) first k)) (u' := W) l1 rfl]
    have e : upd (fl (rf W first t) (S_lv W) first k) (first + k) (S_lv W (first + k) + if S_nu W 7 ≤ lft W (first + k) t then lft W (first + k) t else 0) = fl (rf W first t) (S_lv W) first (k + 1) := fl_s (rf W first t) (S_lv W) first k
    show rec (nI (first + (k + 1))) (S_lv_ W (upd (fl (rf W first t) (S_lv W) first k) (first + k) (S_lv W (first + k) + if S_nu W 7 ≤ lft W (first + k) t then lft W (first + k) t else 0))) = _
    rw [e]) fu 0 (by omega) (by omega)
  rw [fl_0] at h
  exact h
theorem e_rowM {fu : Nat} {W : TS} {m : TM} {first len : Nat} {t : Int32} (hT : TR W (M_ss m)) (hN : first + len ≤ 60) (hfu : 2000 ≤ fu) :
    lf_X5_voidsWith_7 fu (nI first) (nI len) t fu (nI first) m = some (M_ss_ m (fl (rf W first t) (M_ss m) (41 + first) len)) := by
  have h := cp_loop2 (F := lb_X5_voidsWith_7 fu (nI first) (nI len) t) len (fun k => nI (first + k)) (fun k => M_ss_ m (fl (rf W first t) (M_ss m) (41 + first) k)) (M_ss_ m (fl (rf W first t) (M_ss m) (41 + first) len)) (fun rec => by
    unfold lb_X5_voidsWith_7
    rw [nm_d, n_a, if_pos (n_le' (by omega) (by omega) (Nat.le_refl _))]) (fun rec k hk => by
    unfold lb_X5_voidsWith_7
    simp only [nm_d, jn_e]
    have tk : TR (S_lv_ W (fl (rf W first t) (S_lv W) first k)) (M_ss (M_ss_ m (fl (rf W first t) (M_ss m) (41 + first) k))) := TR_lv2 hT k (by omega)
    have l1 : S_lv (S_lv_ W (fl (rf W first t) (S_lv W) first k)) (first + k) = S_lv W (first + k) := fl_out (by omega)
    rw [n_a, if_neg (n_nle (by omega) (by omega) (by omega)), e_liftOf5 tk (by omega), bd_s, n_41, ix_n (by omega) (by omega), ix_n (by omega) (by omega), ix_n (by omega) (by omega), n_cl (by omega), n_p1, lft_c (u := S_lv_ W (fl (rf W first t) (S_lv W) first k)) (u' := W) l1 rfl]
    rw [show M_ss (M_ss_ m (fl (rf W first t) (M_ss m) (41 + first) k)) (41 + (first + k)) = S_lv W (first + k) from (tk.lv (k := first + k) (by omega)).symm.trans l1, show M_ss (M_ss_ m (fl (rf W first t) (M_ss m) (41 + first) k)) 8 = S_nu W 7 from (tk.nu (k := 7) (by omega)).symm]
    have e : upd (fl (rf W first t) (M_ss m) (41 + first) k) (41 + (first + k)) (S_lv W (first + k) + if S_nu W 7 ≤ lft W (first + k) t then lft W (first + k) t else 0) = fl (rf W first t) (M_ss m) (41 + first) (k + 1) := by
      rw [← Nat.add_assoc]
      exact fl_s (rf W first t) (M_ss m) (41 + first) k
    rw [← e]
    by_cases c : S_nu W 7 ≤ lft W (first + k) t
    · rw [if_pos c, if_neg (show ¬ lft W (first + k) t < S_nu W 7 by rw [i_lt]; rw [i_le] at c; omega)]
      rfl
    · rw [if_neg c, if_pos (show lft W (first + k) t < S_nu W 7 by rw [i_lt]; rw [i_le] at c; omega)]
      rfl) fu 0 (by omega) (by omega)
  rw [fl_0] at h
  exact h
theorem e_sumC {fu : Nat} {u : TS} {v : TV} {N : Nat} (hN : S_sl u = nI N) (hN2 : N ≤ 60) (hfu : 2000 ≤ fu) : lf_X4_voidsWithRow_79 fu u v fu (0 : Int32) (0 : Int32) = some (sv (V_he v) (S_lv u) N) := by
  exact cp_loop2 (F := lb_X4_voidsWithRow_79 fu u v) N (fun k => sv (V_he v) (S_lv u) k) (fun k => nI k) (sv (V_he v) (S_lv u) N) (fun rec => by
    unfold lb_X4_voidsWithRow_79
    rw [nm_d, hN, if_pos (n_le' (by omega) (by omega) (Nat.le_refl N))]) (fun rec k hk => by
    unfold lb_X4_voidsWithRow_79
    simp only [nm_d]
    rw [hN, if_neg (n_nle (by omega) (by omega) hk), e_voidAt (by omega), bd_s, n_p1]
    rfl) fu 0 (by omega) (by omega)
theorem e_sumM {fu : Nat} {u : TS} {m : TM} {N : Nat} (hT : TR u (M_ss m)) (hN : S_sl u = nI N) (hN2 : N ≤ 60) (hfu : 2000 ≤ fu) : lf_X5_voidsWith_71 fu m fu (0 : Int32) (0 : Int32) = some (sv (M_ra m) (S_lv u) N) := by
  exact cp_loop2 (F := lb_X5_voidsWith_71 fu m) N (fun k => sv (M_ra m) (S_lv u) k) (fun k => nI k) (sv (M_ra m) (S_lv u) N) (fun rec => by
    unfold lb_X5_voidsWith_71
    rw [nm_d, show M_ss m 0 = nI N from hT.sl.symm.trans hN, if_pos (n_le' (by omega) (by omega) (Nat.le_refl N))]) (fun rec k hk => by
    unfold lb_X5_voidsWith_71
    simp only [nm_d]
    rw [show M_ss m 0 = nI N from hT.sl.symm.trans hN, if_neg (n_nle (by omega) (by omega) hk), e_voidAt5 hT (by omega), bd_s, n_p1]
    rfl) fu 0 (by omega) (by omega)
theorem r_voids {fu : Nat} {now tr W : TS} {ts : TV} {m : TM} {N K A first len : Nat} {t : Int32} (hW : S_lv_ tr (va_cpy (S_lv now) (S_lv tr) 0 0 N) = W) (hT : TR W (M_ss m)) (hI : TI W) (hnN : S_sl now = nI N) (hN : S_sl W = nI N) (hN1 : 10 ≤ N) (hN2 : N ≤ 60) (hK : S_nu W 0 = nI K) (hK1 : 1 ≤ K) (hK2 : K ≤ 20) (hA : S_nu W 2 = nI A) (hA1 : 1 ≤ A) (hA2 : A ≤ 5) (hl : first + len ≤ N) (ht : rg t (-9999) 9999) (hfu : 2000 ≤ fu) :
    ∃ x tr' ts' a g s, f_X4_voidsWithRow fu now tr ts (nI first) (nI len) t = some (x, tr', ts') ∧ f_X5_voidsWith fu m (nI first) (nI len) t = some (x, M_ss_ (M_ra_ (M_as_ m a) g) s) ∧ S_lv_ tr' (va_cpy (S_lv now) (S_lv tr') 0 0 N) = W ∧ ∀ k, k < 281 → s k = M_ss m k := by
  have tf : TR (S_lv_ W (fl (rf W first t) (S_lv W) first len)) (fl (rf W first t) (M_ss m) (41 + first) len) := TR_lv2 hT len (by omega)
  have tI : TI (S_lv_ W (fl (rf W first t) (S_lv W) first len)) := TI_lv2 hI (fun j hj => lfz_rg hI (by omega) ht)
  obtain ⟨f, e1, hf⟩ := r_look (fu := fu) (v := ts) tI hN hN1 hN2 hK hK1 hK2 hA hA1 hA2 hfu
  obtain ⟨g, e2, hg1⟩ := r_rail (fu := fu) (m := M_ss_ (M_as_ m (fl (M_ss m) (M_as m) 0 281)) (fl (rf W first t) (M_ss m) (41 + first) len)) tf tI hN hN1 hN2 hK hK1 hK2 hfu
  have efg := ra_eq hf hg1
  refine ⟨sv f (fl (rf W first t) (S_lv W) first len) N, S_lv_ W (fl (rf W first t) (S_lv W) first len), lk ts (S_lv_ W (fl (rf W first t) (S_lv W) first len)) N A f, fl (M_ss m) (M_as m) 0 281, g, fl (fl (M_ss m) (M_as m) 0 281) (fl (rf W first t) (M_ss m) (41 + first) len) 0 281, ?_, ?_, ?_, back_eq _ _ _⟩
  · unfold f_X4_voidsWithRow
    rw [nm_d, hnN, show cpk (0 : Int32) (0 : Int32) (nI N) 60 60 = true from cpk_n (a := 0) (b := 0) (by omega) (by omega) (by omega) (by omega), rq_t rfl, nm_d, n_cl (by omega), show S_lv_ tr (va_cpy (S_lv now) (S_lv tr) (0 : Int32).toNatClampNeg (0 : Int32).toNatClampNeg N) = W from hW, e_rowC (by omega) hfu, bd_s, e1, bd_s, e_sumC (u := S_lv_ W (fl (rf W first t) (S_lv W) first len)) hN hN2 hfu]
    rfl
  · unfold f_X5_voidsWith
    rw [e_putAside m hfu, bd_s, show lf_X5_voidsWith_7 fu (nI first) (nI len) t fu (nI first) (M_as_ m (fl (M_ss m) (M_as m) 0 281)) = _ from e_rowM (m := M_as_ m (fl (M_ss m) (M_as m) 0 281)) hT (by omega) hfu, bd_s, show f_X5_laysRail fu (M_ss_ (M_as_ m (fl (M_ss m) (M_as m) 0 281)) (fl (rf W first t) (M_ss (M_as_ m (fl (M_ss m) (M_as m) 0 281))) (41 + first) len)) = _ from e2, bd_s, e_sumM (m := M_ra_ (M_ss_ (M_as_ m (fl (M_ss m) (M_as m) 0 281)) (fl (rf W first t) (M_ss m) (41 + first) len)) g) tf hN hN2 hfu, bd_s, e_putBack _ hfu, bd_s]
    show some (sv g (fl (rf W first t) (S_lv W) first len) N, _) = _
    rw [← sv_c (lv := fl (rf W first t) (S_lv W) first len) efg N (Nat.le_refl N)]
    rfl
  · have e : va_cpy (S_lv now) (fl (rf W first t) (S_lv W) first len) 0 0 N = S_lv W := by
      funext k
      have hk0 : S_lv W k = va_cpy (S_lv now) (S_lv tr) 0 0 N k := by
        rw [← hW]
        rfl
      unfold va_cpy at hk0 ⊢
      by_cases c : 0 ≤ k ∧ k < 0 + N
      · rw [if_pos c] at hk0 ⊢
        exact hk0.symm
      · rw [if_neg c]
        exact fl_out (by omega)
    show S_lv_ W (va_cpy (S_lv now) (fl (rf W first t) (S_lv W) first len) 0 0 N) = W
    rw [e]
    rfl
theorem r_best {fu : Nat} {now W : TS} {N K A len : Nat} {t : Int32} (hI : TI W) (hnN : S_sl now = nI N) (hN : S_sl W = nI N) (hN1 : 10 ≤ N) (hN2 : N ≤ 60) (hK : S_nu W 0 = nI K) (hK1 : 1 ≤ K) (hK2 : K ≤ 20) (hA : S_nu W 2 = nI A) (hA1 : 1 ≤ A) (hA2 : A ≤ 5) (hl : len ≤ N) (ht : rg t (-9999) 9999) (hfu : 2000 ≤ fu) : ∀ (n first : Nat) (b x : Int32) (tr : TS) (ts : TV) (m : TM), first ≤ N - len + 1 → N - len + 1 - first < n → S_lv_ tr (va_cpy (S_lv now) (S_lv tr) 0 0 N) = W → TR W (M_ss m) →
    ∃ (b' x' : Int32) (tr' : TS) (ts' : TV) (a g s : Nat → Int32), lq_5 (lb_X4_bestRow_65 fu now (nI len) t) n b x (nI first) tr ts = some (b', x', tr', ts') ∧ lq_4 (lb_X5_bestRow_54 fu (nI len) t) n b x (nI first) m = some (b', x', M_ss_ (M_ra_ (M_as_ m a) g) s) ∧ ∀ k, k < 281 → s k = M_ss m k := by
  intro n
  induction n with
  | zero => intro first b x tr ts m h1 h2; omega
  | succ n ih =>
    intro first b x tr ts m h1 h2 hW hT
    show ∃ (b' x' : Int32) (tr' : TS) (ts' : TV) (a g s : Nat → Int32), lb_X4_bestRow_65 fu now (nI len) t (lq_5 (lb_X4_bestRow_65 fu now (nI len) t) n) b x (nI first) tr ts = some (b', x', tr', ts') ∧ lb_X5_bestRow_54 fu (nI len) t (lq_4 (lb_X5_bestRow_54 fu (nI len) t) n) b x (nI first) m = some (b', x', M_ss_ (M_ra_ (M_as_ m a) g) s) ∧ ∀ k, k < 281 → s k = M_ss m k
    generalize lq_5 (lb_X4_bestRow_65 fu now (nI len) t) n = rc1 at ih ⊢
    generalize lq_4 (lb_X5_bestRow_54 fu (nI len) t) n = rc2 at ih ⊢
    unfold lb_X4_bestRow_65 lb_X5_bestRow_54
    simp only [nm_d, jn_e, e_lesser]
    rw [show M_ss m 0 = nI N from hT.sl.symm.trans hN, hnN, n_s hl]
    by_cases c : N - len < first
    · rw [if_pos ((n_lt (by omega) (by omega)).mpr c), if_pos ((n_lt (by omega) (by omega)).mpr c)]
      exact ⟨b, x, tr, ts, M_as m, M_ra m, M_ss m, rfl, rfl, fun k _ => rfl⟩
    · rw [if_neg (fun e => c ((n_lt (by omega) (by omega)).mp e)), if_neg (fun e => c ((n_lt (by omega) (by omega)).mp e))]
      obtain ⟨y, tr1, ts1, a1, g1, s1, e1, e2, hW1, hs1⟩ := r_voids (fu := fu) (ts := ts) (first := first) (len := len) (t := t) hW hT hI hnN hN hN1 hN2 hK hK1 hK2 hA hA1 hA2 (by omega) ht hfu
      have hT1 : TR W (M_ss (M_ss_ (M_ra_ (M_as_ m a1) g1) s1)) := TR_cong hT hs1
      rw [e1, e2]
      simp only [bd_s, n_p1]
      by_cases d : x ≤ y
      · rw [if_pos d, if_pos d]
        have ex : (if y ≤ x then y else x) = x := by
          by_cases d2 : y ≤ x
          · rw [if_pos d2, i_eq]
            rw [i_le] at d d2
            omega
          · rw [if_neg d2]
        rw [ex]
        obtain ⟨b', x', tr', ts', a, g, s, k1, k2, k3⟩ := ih (first + 1) b x tr1 ts1 (M_ss_ (M_ra_ (M_as_ m a1) g1) s1) (by omega) (by omega) hW1 hT1
        exact ⟨b', x', tr', ts', a, g, s, k1, k2, fun k hk => (k3 k hk).trans (hs1 k hk)⟩
      · rw [if_neg d, if_neg d]
        have ex : (if y ≤ x then y else x) = y := if_pos (by rw [i_le]; rw [i_le] at d; omega)
        rw [ex]
        obtain ⟨b', x', tr', ts', a, g, s, k1, k2, k3⟩ := ih (first + 1) (nI first) y tr1 ts1 (M_ss_ (M_ra_ (M_as_ m a1) g1) s1) (by omega) (by omega) hW1 hT1
        exact ⟨b', x', tr', ts', a, g, s, k1, k2, fun k hk => (k3 k hk).trans (hs1 k hk)⟩
theorem op_bestRow {fu : Nat} (hfu : 2000 ≤ fu) : OP_bestRow RR fu := by
  intro C m p t w h
  obtain ⟨hT, hI, hH, hIm, hX⟩ := id h
  obtain ⟨N, K, Hh, A, eN, hN1, hN2, eK, hK1, hK2, eH, hH1, eA, hA1, hA2⟩ := hI.nat
  unfold f_X4_bestRow f_X5_bestRow
  simp only [e_within, e_in, e_isLevel, e_isLevel5, bd_s, bf, Bool.not_eq_false, nm_d]
  rw [show M_ss m 0 = nI N from hT.sl.symm.trans eN, eN]
  by_cases hp : (1 : Int32).toInt ≤ p.toInt ∧ p.toInt ≤ (20 : Int32).toInt
  · rw [decide_eq_true hp, if_neg (show ¬ true = false by decide)]
    have hp1 : 1 ≤ p.toInt ∧ p.toInt ≤ 20 := hp
    by_cases hn : nI N < p
    · rw [if_pos hn]
      rw [i_lt, n_ti (by omega)] at hn
      rw [decide_eq_false (show ¬ ((1 : Int32).toInt ≤ p.toInt ∧ p.toInt ≤ (if nI N < 20 then nI N else 20).toInt) from fun e => by
        have e2 := e.2
        by_cases c : nI N < 20
        · rw [if_pos c, n_ti (by omega)] at e2
          omega
        · rw [i_lt, n_ti (by omega), show (20 : Int32).toInt = 20 from rfl] at c
          omega), if_pos rfl]
      exact ⟨_, _, rfl, rfl, rfl, h.1, h.2.1, h.2.2.1, h.2.2.2.1, h.2.2.2.2⟩
    · rw [if_neg hn]
      rw [i_lt, n_ti (by omega)] at hn
      rw [decide_eq_true (show (1 : Int32).toInt ≤ p.toInt ∧ p.toInt ≤ (if nI N < 20 then nI N else 20).toInt from by
        refine ⟨hp.1, ?_⟩
        by_cases c : nI N < 20
        · rw [if_pos c, n_ti (by omega)]
          omega
        · rw [if_neg c]
          exact hp.2), if_neg (show ¬ true = false by decide)]
      cases h2 : lvb t with
      | false =>
        rw [if_pos rfl, if_pos rfl]
        exact ⟨_, _, rfl, rfl, rfl, h.1, h.2.1, h.2.2.1, h.2.2.2.1, h.2.2.2.2⟩
      | true =>
        rw [if_neg (show ¬ true = false by decide), if_neg (show ¬ true = false by decide)]
        by_cases hw : (0 : Int32).toInt ≤ w.toInt ∧ w.toInt ≤ (1 : Int32).toInt
        · rw [decide_eq_true hw, if_pos rfl, if_pos rfl]
          obtain ⟨len, rfl, el, -⟩ := i_of (x := p) (by omega)
          have hlr := lvb_t h2
          have lvW : ∀ k, k < 60 → va_cpy (S_lv (C_now C)) (S_lv (cpT (C_tr C) (C_now C))) 0 0 N k = S_lv (C_now C) k := fun k hk => by
            by_cases c : k < N
            · exact sb_cpy0 c
            · show (if 0 ≤ k ∧ k < 0 + N then _ else _) = _
              rw [if_neg (by omega)]
              exact sb_cpy0 hk
          have tT : TR (cpT (C_tr C) (C_now C)) (M_ss m) := TR_cp hT
          have tI : TI (cpT (C_tr C) (C_now C)) := TI_cp hI
          have wT : TR (S_lv_ (cpT (C_tr C) (C_now C)) (va_cpy (S_lv (C_now C)) (S_lv (cpT (C_tr C) (C_now C))) 0 0 N)) (M_ss m) := by
            obtain ⟨g0, g1, g2, g3, g4, g5, g6, g7, g8⟩ := tT
            exact ⟨g0, g1, g2, g3, fun k hk => (lvW k hk).trans (hT.lv hk), g5, g6, g7, g8⟩
          have wI : TI (S_lv_ (cpT (C_tr C) (C_now C)) (va_cpy (S_lv (C_now C)) (S_lv (cpT (C_tr C) (C_now C))) 0 0 N)) := by
            obtain ⟨g0, g1, g2, g3, g4, g5⟩ := tI
            refine ⟨g0, g1, fun k hk => ?_, g3, g4, g5⟩
            show rg (va_cpy (S_lv (C_now C)) (S_lv (cpT (C_tr C) (C_now C))) 0 0 N k) (-9999) 9999
            rw [lvW k hk]
            exact hI.lv hk
          generalize hWd : S_lv_ (cpT (C_tr C) (C_now C)) (va_cpy (S_lv (C_now C)) (S_lv (cpT (C_tr C) (C_now C))) 0 0 N) = W at wT wI
          have wN : S_sl W = nI N := by rw [← hWd]; exact eN
          have wK : S_nu W 0 = nI K := by rw [← hWd]; exact (cpT_nu (u := C_tr C) (by omega)).trans eK
          have wA : S_nu W 2 = nI A := by rw [← hWd]; exact (cpT_nu (u := C_tr C) (by omega)).trans eA
          obtain ⟨y, tr1, ts1, a1, g1, s1, e1, e2, hW1, hs1⟩ := r_voids (fu := fu) (now := C_now C) (tr := cpT (C_tr C) (C_now C)) (ts := C_ts C) (m := m) (first := 0) (len := len) (t := t) hWd wT wI eN wN hN1 hN2 wK hK1 hK2 wA hA1 hA2 (by omega) hlr hfu
          obtain ⟨b', x', tr', ts', a, g, s, k1, k2, k3⟩ := r_best (fu := fu) (now := C_now C) (W := W) (len := len) (t := t) wI eN wN hN1 hN2 wK hK1 hK2 wA hA1 hA2 (by omega) hlr hfu fu 1 0 y tr1 ts1 (M_ss_ (M_ra_ (M_as_ m a1) g1) s1) (by omega) (by omega) hW1 (TR_cong wT hs1)
          rw [e_copyFrom, bd_s, show f_X4_voidsWithRow fu (C_now C) (cpT (C_tr C) (C_now C)) (C_ts C) (0 : Int32) (nI len) t = _ from e1, show f_X5_voidsWith fu m (0 : Int32) (nI len) t = _ from e2]
          simp only [bd_s]
          rw [show lf_X4_bestRow_65 fu (C_now C) (nI len) t fu (0 : Int32) y (1 : Int32) tr1 ts1 = _ from k1, show lf_X5_bestRow_54 fu (nI len) t fu (0 : Int32) y (1 : Int32) (M_ss_ (M_ra_ (M_as_ m a1) g1) s1) = _ from k2]
          simp only [bd_s]
          have fin : TR (C_now C) s := TR_cong hT (fun k hk => (k3 k hk).trans (hs1 k hk))
          by_cases c : w = 0
          · rw [if_neg (fun e => e c), if_neg (fun e => e c)]
            exact ⟨_, _, rfl, rfl, rfl, fin, hI, hH, hIm, hX⟩
          · rw [if_pos c, if_pos c]
            exact ⟨_, _, rfl, rfl, rfl, fin, hI, hH, hIm, hX⟩
        · rw [decide_eq_false hw, if_neg (by decide), if_neg (by decide)]
          exact ⟨_, _, rfl, rfl, rfl, h.1, h.2.1, h.2.2.1, h.2.2.2.1, h.2.2.2.2⟩
  · rw [decide_eq_false hp, if_pos rfl]
    rw [decide_eq_false (show ¬ ((1 : Int32).toInt ≤ p.toInt ∧ p.toInt ≤ (if nI N < 20 then nI N else 20).toInt) from fun e => hp ⟨e.1, by
      have e2 := e.2
      by_cases c : nI N < 20
      · rw [if_pos c] at e2
        rw [i_lt] at c
        omega
      · rw [if_neg c] at e2
        exact e2⟩), if_pos rfl]
    exact ⟨_, _, rfl, rfl, rfl, h.1, h.2.1, h.2.2.1, h.2.2.2.1, h.2.2.2.2⟩
