def LK (v : TV) (u : TS) (N K A : Nat) (g : Nat → Int32) : Prop := (∀ t, t < N → isR u N K t (V_he v t).toInt) ∧ (∀ t, t < N → V_ha v t = bI (hgB u g t)) ∧ V_od v = od u (wf g N A N).2 ∧ (∀ t, t < N → isR u N K t (g t).toInt)
theorem LK_of {v : TV} {u : TS} {N K A : Nat} {f g : Nat → Int32} (hf : ∀ t, t < N → isR u N K t (f t).toInt) (hg1 : ∀ t, t < N → isR u N K t (g t).toInt) : LK (lk v u N A f) u N K A g := by
  have efg := ra_eq hf hg1
  refine ⟨hf, fun t ht => ?_, ?_, hg1⟩
  · show fl (hg u f) (V_ha v) 0 N t = _
    rw [fl_in0 ht, hg_bI, hgB_c (efg t ht)]
  · show od u (wf f N A N).2 = _
    rw [wf_c efg N (Nat.le_refl N)]
theorem e_hangsW {fu : Nat} {m : TM} {u : TS} {i : Nat} (hi : i < 60) (h2 : M_ss m 2 = S_nu u 1) (hl : M_ss m (41 + i) = S_lv u i) : f_X5_hangs fu m (nI i) = some (hgB u (M_ra m) i) := by
  unfold f_X5_hangs f_X5_voidAt
  simp only [nm_d]
  rw [n_41, ix_n hi (by omega), ix_n (by omega) (by omega), n_cl (by omega), n_cl (by omega), bd_s, hl, h2]
  unfold hgB
  by_cases h : M_ra m i - S_lv u i ≤ S_nu u 1
  · rw [if_pos h, if_pos h]
  · rw [if_neg h, if_neg h]
def pF (u : TS) (b : Nat → Bool) (t : Nat) : Int32 := if b t = false then S_fo u t else if S_fo u t + 1 < 100 then S_fo u t + 1 else 100
def pS (u : TS) (L : Nat → Int32) (p q o : Int32) (t : Nat) : Int32 := stl p q (L t) (S_fo u t) o (S_lv u t)
def pL (u : TS) (b : Nat → Bool) (L : Nat → Int32) (p q o : Int32) (t : Nat) : Int32 := if b t = false then S_lv u t - pS u L p q o t else S_lv u t
def pE (u : TS) (b : Nat → Bool) (L : Nat → Int32) (p q o : Int32) (t : Nat) : Int32 := if b t = false then S_se u t + pS u L p q o t else S_se u t
def pA (u : TS) (b : Nat → Bool) (L : Nat → Int32) (p q o : Int32) : Nat → Int32
  | 0 => S_ac u 0
  | k + 1 => if b k = false then pA u b L p q o k + pS u L p q o k else pA u b L p q o k
def pU (u : TS) (b : Nat → Bool) (L : Nat → Int32) (p q o : Int32) (k : Nat) : TS := S_ac_ (S_se_ (S_lv_ (S_fo_ u (fl (pF u b) (S_fo u) 0 k)) (fl (pL u b L p q o) (S_lv u) 0 k)) (fl (pE u b L p q o) (S_se u) 0 k)) (upd (S_ac u) 0 (pA u b L p q o k))
def pW (u : TS) (b : Nat → Bool) (L : Nat → Int32) (p q o : Int32) (s : Nat → Int32) (k : Nat) : Nat → Int32 := fun t => if t = 9 then pA u b L p q o k else if 41 ≤ t ∧ t < 41 + k then pL u b L p q o (t - 41) else if 161 ≤ t ∧ t < 161 + k then pE u b L p q o (t - 161) else s t
theorem e_settle {fu : Nat} {u : TS} {i : Nat} {x lv se : Int32} (hi : i < 60) (hl : S_lv u i = lv) (hs1 : S_se u i = se) :
    f_X1_settle fu u (nI i) x = some (S_ac_ (S_se_ (S_lv_ u (upd (S_lv u) i (lv - if lv - (-9999 : Int32) < x then lv - (-9999 : Int32) else x))) (upd (S_se u) i (se + if lv - (-9999 : Int32) < x then lv - (-9999 : Int32) else x))) (upd (S_ac u) 0 (S_ac u 0 + if lv - (-9999 : Int32) < x then lv - (-9999 : Int32) else x))) := by
  unfold f_X1_settle
  simp only [nm_d]
  rw [ix_n hi (by omega), ix_n hi (by omega), ix_n hi (by omega), ix_n hi (by omega), ix_n hi (by omega), n_cl (by omega), hl, ← hs1]
  rfl
theorem e_foul1 {fu : Nat} {u : TS} {i : Nat} {fo : Int32} (hi : i < 60) (hf : S_fo u i = fo) : f_X1_foul fu u (nI i) (1 : Int32) = some (S_fo_ u (upd (S_fo u) i (if fo + 1 < 100 then fo + 1 else 100))) := by
  unfold f_X1_foul
  simp only [nm_d]
  rw [ix_n hi (by omega), ix_n hi (by omega), n_cl (by omega), hf]
theorem upd_upd (f : Nat → Int32) (k : Nat) (x y : Int32) : upd (upd f k x) k y = upd f k y := by
  funext t
  by_cases c : t = k
  · rw [c, pk_us, pk_us]
  · rw [pk_un c, pk_un c, pk_un c]
theorem c_pass {fu : Nat} {u : TS} {v : TV} {N : Nat} {b : Nat → Bool} {L : Nat → Int32} {p q : Int32} (hN : S_sl u = nI N) (hN2 : N ≤ 60) (hv : ∀ t, t < N → V_lo v t = L t) (hb : ∀ t, t < N → V_ha v t = bI (b t)) (hfu : 2000 ≤ fu) :
    lf_X4_passTrain_12 fu p q v fu (0 : Int32) u = some (pU u b L p q (V_od v) N) := by
  have h := cp_loop2 (F := lb_X4_passTrain_12 fu p q v) N (fun k => nI k) (fun k => pU u b L p q (V_od v) k) (pU u b L p q (V_od v) N) (fun rec => by
    unfold lb_X4_passTrain_12
    rw [nm_d, show S_sl (pU u b L p q (V_od v) N) = nI N from hN, if_pos (n_le' (by omega) (by omega) (Nat.le_refl N))]) (fun rec k hk => by
    unfold lb_X4_passTrain_12
    rw [nm_d, show S_sl (pU u b L p q (V_od v) k) = nI N from hN, if_neg (n_nle (by omega) (by omega) hk), ix_n (by omega) (by omega), n_cl (by omega), hb k hk]
    simp only [nm_d, jn_e, n_p1]
    have f0 : S_fo (pU u b L p q (V_od v) k) k = S_fo u k := fl_out (by omega)
    have l1 : S_lv (pU u b L p q (V_od v) k) k = S_lv u k := fl_out (by omega)
    have s1 : S_se (pU u b L p q (V_od v) k) k = S_se u k := fl_out (by omega)
    cases e : b k with
    | false =>
      rw [if_pos (show bI false = 0 from rfl), e_settlement (by omega), bd_s, f0, hv k hk, e_settle (by omega) l1 s1, bd_s]
      have e1 : fl (pF u b) (S_fo u) 0 k = fl (pF u b) (S_fo u) 0 (k + 1) := (fl_same (by rw [Nat.zero_add]; exact if_pos e)).symm
      have e2 : upd (fl (pL u b L p q (V_od v)) (S_lv u) 0 k) k (S_lv u k - pS u L p q (V_od v) k) = fl (pL u b L p q (V_od v)) (S_lv u) 0 (k + 1) := by
        rw [← fl_s0, show pL u b L p q (V_od v) k = S_lv u k - pS u L p q (V_od v) k from if_pos e]
      have e3 : upd (fl (pE u b L p q (V_od v)) (S_se u) 0 k) k (S_se u k + pS u L p q (V_od v) k) = fl (pE u b L p q (V_od v)) (S_se u) 0 (k + 1) := by
        rw [← fl_s0, show pE u b L p q (V_od v) k = S_se u k + pS u L p q (V_od v) k from if_pos e]
      have e4 : upd (upd (S_ac u) 0 (pA u b L p q (V_od v) k)) 0 (upd (S_ac u) 0 (pA u b L p q (V_od v) k) 0 + pS u L p q (V_od v) k) = upd (S_ac u) 0 (pA u b L p q (V_od v) (k + 1)) := by
        rw [upd_upd, pk_us, show pA u b L p q (V_od v) (k + 1) = pA u b L p q (V_od v) k + pS u L p q (V_od v) k from if_pos e]
      show rec (nI (k + 1)) (S_ac_ (S_se_ (S_lv_ (S_fo_ u (fl (pF u b) (S_fo u) 0 k)) (upd (fl (pL u b L p q (V_od v)) (S_lv u) 0 k) k (S_lv u k - pS u L p q (V_od v) k))) (upd (fl (pE u b L p q (V_od v)) (S_se u) 0 k) k (S_se u k + pS u L p q (V_od v) k))) (upd (upd (S_ac u) 0 (pA u b L p q (V_od v) k)) 0 (upd (S_ac u) 0 (pA u b L p q (V_od v) k) 0 + pS u L p q (V_od v) k))) = _
      rw [e1, e2, e3, e4]
      rfl
    | true =>
      rw [if_neg (show ¬ bI true = 0 by decide), e_foul1 (by omega) f0, bd_s]
      have ne : ¬ b k = false := by rw [e]; decide
      have e1 : upd (fl (pF u b) (S_fo u) 0 k) k (if S_fo u k + 1 < 100 then S_fo u k + 1 else 100) = fl (pF u b) (S_fo u) 0 (k + 1) := by
        rw [← fl_s0, show pF u b k = (if S_fo u k + 1 < 100 then S_fo u k + 1 else 100) from if_neg ne]
      have e2 : fl (pL u b L p q (V_od v)) (S_lv u) 0 k = fl (pL u b L p q (V_od v)) (S_lv u) 0 (k + 1) := (fl_same (by rw [Nat.zero_add]; exact if_neg ne)).symm
      have e3 : fl (pE u b L p q (V_od v)) (S_se u) 0 k = fl (pE u b L p q (V_od v)) (S_se u) 0 (k + 1) := (fl_same (by rw [Nat.zero_add]; exact if_neg ne)).symm
      have e4 : pA u b L p q (V_od v) k = pA u b L p q (V_od v) (k + 1) := (if_neg ne).symm
      show rec (nI (k + 1)) (S_ac_ (S_se_ (S_lv_ (S_fo_ u (upd (fl (pF u b) (S_fo u) 0 k) k (if S_fo u k + 1 < 100 then S_fo u k + 1 else 100))) (fl (pL u b L p q (V_od v)) (S_lv u) 0 k)) (fl (pE u b L p q (V_od v)) (S_se u) 0 k)) (upd (S_ac u) 0 (pA u b L p q (V_od v) k))) = _
      rw [e1, e2, e3, e4]
      rfl) fu 0 (by omega) (by omega)
  have z : pU u b L p q (V_od v) 0 = u := by
    unfold pU
    rw [fl_0, fl_0, fl_0, show pA u b L p q (V_od v) 0 = S_ac u 0 from rfl, upd_self]
    rfl
  have h2 : lq_2 (lb_X4_passTrain_12 fu p q v) fu (nI 0) (pU u b L p q (V_od v) 0) = some (pU u b L p q (V_od v) N) := h
  rw [z] at h2
  exact h2
theorem ss_out {m : TM} {f lo : Nat → Int32} {d k t : Nat} (h : t < d ∨ d + k ≤ t) : M_ss (M_lo_ (M_ss_ m (fl f (M_ss m) d k)) lo) t = M_ss m t := fl_out h
theorem ss_in {m : TM} {f lo : Nat → Int32} {d k j : Nat} (h : j < k) : M_ss (M_lo_ (M_ss_ m (fl f (M_ss m) d k)) lo) (d + j) = f j := fl_in h
theorem lo_in0 {m : TM} {f g : Nat → Int32} {k j : Nat} (h : j < k) : M_lo (M_lo_ m (fl f g 0 k)) j = f j := fl_in0 h
theorem m_pass1 {fu : Nat} {u : TS} {m : TM} {N : Nat} {L : Nat → Int32} (hT : TR u (M_ss m)) (hN : S_sl u = nI N) (hN2 : N ≤ 60) (hfu : 2000 ≤ fu) :
    lf_X5_passes_30 fu fu (0 : Int32) (M_lo_ m L) = some (M_lo_ (M_ss_ m (fl (pF u (hgB u (M_ra m))) (M_ss m) 101 N)) (fl (fun t => if hgB u (M_ra m) t = false then L t else -1) L 0 N)) := by
  generalize hb : hgB u (M_ra m) = b
  have h := cp_loop2 (F := lb_X5_passes_30 fu) N (fun k => nI k) (fun k => M_lo_ (M_ss_ m (fl (pF u b) (M_ss m) 101 k)) (fl (fun t => if b t = false then L t else -1) L 0 k)) (M_lo_ (M_ss_ m (fl (pF u b) (M_ss m) 101 N)) (fl (fun t => if b t = false then L t else -1) L 0 N)) (fun rec => by
    unfold lb_X5_passes_30
    rw [nm_d, show M_ss (M_lo_ (M_ss_ m (fl (pF u b) (M_ss m) 101 N)) (fl (fun t => if b t = false then L t else -1) L 0 N)) 0 = nI N from (ss_out (by omega)).trans (hT.sl.symm.trans hN), if_pos (n_le' (by omega) (by omega) (Nat.le_refl N))]) (fun rec k hk => by
    unfold lb_X5_passes_30
    rw [nm_d, show M_ss (M_lo_ (M_ss_ m (fl (pF u b) (M_ss m) 101 k)) (fl (fun t => if b t = false then L t else -1) L 0 k)) 0 = nI N from (ss_out (by omega)).trans (hT.sl.symm.trans hN), if_neg (n_nle (by omega) (by omega) hk)]
    have eh : f_X5_hangs fu (M_lo_ (M_ss_ m (fl (pF u b) (M_ss m) 101 k)) (fl (fun t => if b t = false then L t else -1) L 0 k)) (nI k) = some (b k) := by
      rw [e_hangsW (u := u) (by omega) ((ss_out (by omega)).trans (hT.nu (k := 1) (by omega)).symm) ((ss_out (by omega)).trans (hT.lv (by omega)).symm), ← hb]
      rfl
    rw [eh, bd_s]
    simp only [nm_d, jn_e, n_p1, n_101, e_lesser, bd_s]
    cases e : b k with
    | false =>
      rw [if_pos (show bI false = 0 from rfl)]
      have e1 : fl (pF u b) (M_ss m) 101 k = fl (pF u b) (M_ss m) 101 (k + 1) := (fl_same (Eq.trans (if_pos e) (hT.fo (by omega)))).symm
      have e2 : fl (fun t => if b t = false then L t else (-1 : Int32)) L 0 k = fl (fun t => if b t = false then L t else -1) L 0 (k + 1) := (fl_same (by rw [Nat.zero_add]; exact if_pos e)).symm
      rw [← e1, ← e2]
    | true =>
      have ne : ¬ b k = false := by rw [e]; decide
      rw [if_neg (show ¬ bI true = 0 by decide), ix_n (by omega) (by omega), ix_n (by omega) (by omega), ix_n (by omega) (by omega), n_cl (by omega), n_cl (by omega)]
      rw [show M_ss (M_lo_ (M_ss_ m (fl (pF u b) (M_ss m) 101 k)) (fl (fun t => if b t = false then L t else -1) L 0 k)) (101 + k) = S_fo u k from (ss_out (by omega)).trans (hT.fo (by omega)).symm]
      have ef : (if S_fo u k + 1 ≤ 100 then S_fo u k + 1 else (100 : Int32)) = pF u b k := by
        unfold pF
        rw [if_neg ne]
        by_cases c : S_fo u k + 1 < 100
        · rw [if_pos c, if_pos (by rw [i_lt] at c; rw [i_le]; omega)]
        · rw [if_neg c]
          by_cases c2 : S_fo u k + 1 ≤ 100
          · rw [if_pos c2, i_eq]
            rw [i_lt] at c
            rw [i_le] at c2
            omega
          · rw [if_neg c2]
      rw [ef]
      have e1 : upd (fl (pF u b) (M_ss m) 101 k) (101 + k) (pF u b k) = fl (pF u b) (M_ss m) 101 (k + 1) := fl_s _ _ _ _
      have e2 : upd (fl (fun t => if b t = false then L t else (-1 : Int32)) L 0 k) k (-1) = fl (fun t => if b t = false then L t else -1) L 0 (k + 1) := by
        rw [← fl_s0]
        show _ = upd _ k (if b k = false then L k else -1)
        rw [if_neg ne]
      show rec (nI (k + 1)) (M_lo_ (M_ss_ m (upd (fl (pF u b) (M_ss m) 101 k) (101 + k) (pF u b k))) (upd (fl (fun t => if b t = false then L t else (-1 : Int32)) L 0 k) k (-1))) = _
      rw [e1, e2]) fu 0 (by omega) (by omega)
  rw [fl_0, fl_0] at h
  exact h
theorem m_pass2 {fu : Nat} {u : TS} {m : TM} {N : Nat} {b : Nat → Bool} {L : Nat → Int32} {p q o : Int32} (hN2 : N ≤ 60) (hs0 : M_ss m 0 = nI N) (hs9 : M_ss m 9 = S_ac u 0) (hl : ∀ k, k < N → M_ss m (41 + k) = S_lv u k) (hse : ∀ k, k < N → M_ss m (161 + k) = S_se u k) (hfo : ∀ k, k < N → b k = false → M_ss m (101 + k) = S_fo u k) (hlo : ∀ k, k < N → M_lo m k = if b k = false then L k else -1) (hL : ∀ k, k < N → rg (L k) 0 1000) (hp : rg p 1 200) (hq : rg q 1 30) (hrf : ∀ k, k < N → rg (S_fo u k) 0 100) (hrl : ∀ k, k < N → rg (S_lv u k) (-9999) 9999) (hfu : 2000 ≤ fu) :
    lf_X5_passes_94 fu p q (shr o) fu (0 : Int32) m = some (M_ss_ m (pW u b L p q o (M_ss m) N)) := by
  have h := cp_loop2 (F := lb_X5_passes_94 fu p q (shr o)) N (fun k => nI k) (fun k => M_ss_ m (pW u b L p q o (M_ss m) k)) (M_ss_ m (pW u b L p q o (M_ss m) N)) (fun rec => by
    have w0 : pW u b L p q o (M_ss m) N 0 = nI N := by
      unfold pW
      rw [if_neg (by omega), if_neg (by omega), if_neg (by omega), hs0]
    unfold lb_X5_passes_94
    rw [nm_d, M_ss_ss, w0, if_pos (n_le' (by omega) (by omega) (Nat.le_refl N))]) (fun rec k hk => by
    have w0 : pW u b L p q o (M_ss m) k 0 = nI N := by
      unfold pW
      rw [if_neg (by omega), if_neg (by omega), if_neg (by omega), hs0]
    have w2 : pW u b L p q o (M_ss m) k (41 + k) = S_lv u k := by
      unfold pW
      rw [if_neg (by omega), if_neg (by omega), if_neg (by omega), hl k hk]
    have w3 : pW u b L p q o (M_ss m) k (161 + k) = S_se u k := by
      unfold pW
      rw [if_neg (by omega), if_neg (by omega), if_neg (by omega), hse k hk]
    have w9 : pW u b L p q o (M_ss m) k 9 = pA u b L p q o k := by
      unfold pW
      rw [if_pos rfl]
    unfold lb_X5_passes_94
    rw [nm_d, M_ss_ss, w0, if_neg (n_nle (by omega) (by omega) hk), ix_n (by omega) (by omega), nm_d, n_cl (by omega), M_ss_lo, hlo k hk]
    cases e : b k with
    | true =>
      have ne : ¬ b k = false := by rw [e]; decide
      rw [if_neg (show ¬ true = false by decide), jn_e, if_pos m_neg]
      simp only [nm_d, n_p1]
      have ew : pW u b L p q o (M_ss m) k = pW u b L p q o (M_ss m) (k + 1) := by
        funext t
        unfold pW
        rw [show pA u b L p q o (k + 1) = pA u b L p q o k from if_neg ne]
        by_cases c : t = 9
        · rw [if_pos c, if_pos c]
        · rw [if_neg c, if_neg c]
          by_cases c2 : t = 41 + k
          · subst c2
            rw [if_neg (by omega), if_neg (by omega), if_pos (by omega), Nat.add_sub_cancel_left, hl k hk]
            exact (if_neg ne).symm
          · by_cases c3 : 41 ≤ t ∧ t < 41 + k
            · rw [if_pos c3, if_pos (by omega)]
            · rw [if_neg c3, if_neg (show ¬ (41 ≤ t ∧ t < 41 + (k + 1)) by omega)]
              by_cases c4 : t = 161 + k
              · subst c4
                rw [if_neg (by omega), if_pos (by omega), Nat.add_sub_cancel_left, hse k hk]
                exact (if_neg ne).symm
              · by_cases c5 : 161 ≤ t ∧ t < 161 + k
                · rw [if_pos c5, if_pos (by omega)]
                · rw [if_neg c5, if_neg (by omega)]
      rw [ew]
    | false =>
      have w1 : pW u b L p q o (M_ss m) k (101 + k) = S_fo u k := by
        unfold pW
        rw [if_neg (by omega), if_neg (by omega), if_neg (by omega), hfo k hk e]
      rw [if_pos (show false = false from rfl)]
      obtain ⟨L1, L2⟩ := hL k hk
      obtain ⟨y1, y2, y3⟩ := stY_rg (o := o) hp hq (hL k hk) (hrf k hk)
      obtain ⟨z1, -, -⟩ := stl_eq y1 y2 (hrl k hk)
      have eY : p.toInt64 * q.toInt64 * (L k).toInt64 * (100 + S_fo u k).toInt64 * (shr o).toInt64 / 4000000 = stY p q (L k) (S_fo u k) o := by
        unfold stY
        rw [y3]
      have z2 : (if S_lv u k - (-9999 : Int32) < (stY p q (L k) (S_fo u k) o).toInt32 then S_lv u k - (-9999 : Int32) else (stY p q (L k) (S_fo u k) o).toInt32) = pS u L p q o k := rfl
      rw [z2] at z1
      have ew : upd (upd (upd (pW u b L p q o (M_ss m) k) (41 + k) (S_lv u k - pS u L p q o k)) (161 + k) (S_se u k + pS u L p q o k)) 9 (pA u b L p q o k + pS u L p q o k) = pW u b L p q o (M_ss m) (k + 1) := by
        funext t
        by_cases c : t = 9
        · rw [c, pk_us]
          unfold pW
          rw [if_pos rfl]
          exact (if_pos e).symm
        · rw [pk_un c]
          by_cases c4 : t = 161 + k
          · subst c4
            rw [pk_us]
            unfold pW
            rw [if_neg (by omega), if_neg (by omega), if_pos (by omega), Nat.add_sub_cancel_left]
            exact (if_pos e).symm
          · rw [pk_un c4]
            by_cases c2 : t = 41 + k
            · subst c2
              rw [pk_us]
              unfold pW
              rw [if_neg (by omega), if_pos (by omega), Nat.add_sub_cancel_left]
              exact (if_pos e).symm
            · rw [pk_un c2]
              unfold pW
              rw [if_neg c, if_neg c]
              by_cases c3 : 41 ≤ t ∧ t < 41 + k
              · rw [if_pos c3, if_pos (by omega)]
              · rw [if_neg c3, if_neg (show ¬ (41 ≤ t ∧ t < 41 + (k + 1)) by omega)]
                by_cases c5 : 161 ≤ t ∧ t < 161 + k
                · rw [if_pos c5, if_pos (by omega)]
                · rw [if_neg c5, if_neg (by omega)]
      rw [jn_e, if_neg (show ¬ L k < 0 by rw [i_lt, z_0]; omega)]
      have k1 : (nI (41 + k)).toNatClampNeg = 41 + k := n_cl (by omega)
      have k2 : (nI (161 + k)).toNatClampNeg = 161 + k := n_cl (by omega)
      have k3 : (nI (101 + k)).toNatClampNeg = 101 + k := n_cl (by omega)
      simp only [nm_d, jn_e, n_p1, n_101, n_41, n_161, M_ss_ss, k1, k2, k3, w1, w2]
      rw [ix_n (by omega) (by omega), ix_n (by omega) (by omega), ix_n (by omega) (by omega), eY]
      have fin : ∀ y : Int32, y = pS u L p q o k → (ix (nI (41 + k)) 281 <| ix (nI (41 + k)) 281 <| ix (nI (161 + k)) 281 <| ix (nI (161 + k)) 281 <| rec (nI (k + 1)) (M_ss_ (M_ss_ (M_ss_ (M_ss_ m (pW u b L p q o (M_ss m) k)) (upd (pW u b L p q o (M_ss m) k) (41 + k) (S_lv u k - y))) (upd (upd (pW u b L p q o (M_ss m) k) (41 + k) (S_lv u k - y)) (161 + k) (upd (pW u b L p q o (M_ss m) k) (41 + k) (S_lv u k - y) (161 + k) + y))) (upd (upd (upd (pW u b L p q o (M_ss m) k) (41 + k) (S_lv u k - y)) (161 + k) (upd (pW u b L p q o (M_ss m) k) (41 + k) (S_lv u k - y) (161 + k) + y)) 9 (upd (upd (pW u b L p q o (M_ss m) k) (41 + k) (S_lv u k - y)) (161 + k) (upd (pW u b L p q o (M_ss m) k) (41 + k) (S_lv u k - y) (161 + k) + y) 9 + y)))) = rec (nI (k + 1)) (M_ss_ m (pW u b L p q o (M_ss m) (k + 1))) := by
        rintro y rfl
        rw [ix_n (by omega) (by omega), ix_n (by omega) (by omega), ix_n (by omega) (by omega), ix_n (by omega) (by omega), pk_un (k := 41 + k) (j := 161 + k) (by omega), w3, pk_un (k := 161 + k) (j := 9) (by omega), pk_un (k := 41 + k) (j := 9) (by omega), w9, ew]
        rfl
      by_cases c : 0 ≤ lg_cmp (stY p q (L k) (S_fo u k) o) ((S_lv u k).toInt64 - (-9999 : Int64))
      · rw [if_pos c] at z1
        rw [if_pos c]
        exact fin _ z1
      · rw [if_neg c] at z1
        rw [if_neg c]
        exact fin _ z1) fu 0 (by omega) (by omega)
  have z : pW u b L p q o (M_ss m) 0 = M_ss m := by
    funext t
    unfold pW
    by_cases c : t = 9
    · rw [if_pos c, c, hs9]
      rfl
    · rw [if_neg c, if_neg (by omega), if_neg (by omega)]
  have h2 : lq_2 (lb_X5_passes_94 fu p q (shr o)) fu (nI 0) (M_ss_ m (pW u b L p q o (M_ss m) 0)) = some (M_ss_ m (pW u b L p q o (M_ss m) N)) := h
  rw [z] at h2
  exact h2
