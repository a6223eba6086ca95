/-! saved states -/
def cpT (u v : TS) : TS := (S_sl v, S_jb v, va_cpy (S_nu v) (S_nu u) 0 0 8, va_cpy (S_lv v) (S_lv u) 0 0 60, va_cpy (S_fo v) (S_fo u) 0 0 60, va_cpy (S_se v) (S_se u) 0 0 60, va_cpy (S_li v) (S_li u) 0 0 60, va_cpy (S_jr v) (S_jr u) 0 0 24, va_cpy (S_ac v) (S_ac u) 0 0 7)
theorem rq_t {α : Type} {c : Bool} {k : Option α} (h : c = true) : rq c k = k := by rw [h]; rfl
theorem e_copyFrom (fu : Nat) (u v : TS) : f_X1_copyFrom fu u v = some (cpT u v) := by
  unfold f_X1_copyFrom
  simp only [nm_d]
  rw [rq_t (by decide), rq_t (by decide), rq_t (by decide), rq_t (by decide), rq_t (by decide), rq_t (by decide), rq_t (by decide)]
  rfl
theorem TR_cp {u v : TS} {s : Nat → Int32} (h : TR v s) : TR (cpT u v) s := by
  obtain ⟨h0, h1, h2, h3, h4, h5, h6, h7, h8⟩ := h
  refine ⟨h0, fun k hk => ?_, fun k hk => ?_, h3, fun k hk => ?_, fun k hk => ?_, fun k hk => ?_, fun k hk => ?_, fun k hk hj => ?_⟩
  · exact (sb_cpy0 hk).trans (h1 k hk)
  · exact (sb_cpy0 hk).trans (h2 k hk)
  · exact (sb_cpy0 hk).trans (h4 k hk)
  · exact (sb_cpy0 hk).trans (h5 k hk)
  · exact (sb_cpy0 hk).trans (h6 k hk)
  · exact (sb_cpy0 hk).trans (h7 k hk)
  · exact (sb_cpy0 hk).trans (h8 k hk hj)
theorem TI_cp {u v : TS} (h : TI v) : TI (cpT u v) := by
  obtain ⟨h0, h1, h2, h3, h4, h5⟩ := h
  refine ⟨h0, ?_, fun k hk => ?_, fun k hk => ?_, h4, fun j hj => ?_⟩
  · have e : ∀ k, k < 8 → S_nu (cpT u v) k = S_nu v k := fun k hk => sb_cpy0 hk
    rw [e 0 (by omega), e 1 (by omega), e 2 (by omega), e 3 (by omega), e 4 (by omega), e 5 (by omega), e 6 (by omega), e 7 (by omega)]
    exact h1
  · rw [show S_lv (cpT u v) k = S_lv v k from sb_cpy0 hk]
    exact h2 k hk
  · rw [show S_fo (cpT u v) k = S_fo v k from sb_cpy0 hk]
    exact h3 k hk
  · have hj6 : (j : Int) < (S_jb v).toInt := hj
    have h46 := h4.2
    have e : ∀ k, k < 24 → S_jr (cpT u v) k = S_jr v k := fun k hk => sb_cpy0 hk
    have hJ := h5 j hj
    unfold JI at hJ ⊢
    rw [e (4 * j) (by omega), e (4 * j + 1) (by omega), e (4 * j + 2) (by omega), e (4 * j + 3) (by omega)]
    exact hJ
theorem TR_cong {u : TS} {s s' : Nat → Int32} (h : TR u s) (e : ∀ k, k < 281 → s' k = s k) : TR u s' := by
  obtain ⟨h0, h1, h2, h3, h4, h5, h6, h7, h8⟩ := h
  refine ⟨?_, fun k hk => ?_, fun k hk => ?_, ?_, fun k hk => ?_, fun k hk => ?_, fun k hk => ?_, fun k hk => ?_, fun k hk hj => ?_⟩
  · rw [e _ (by omega)]; exact h0
  · rw [e _ (by omega)]; exact h1 k hk
  · rw [e _ (by omega)]; exact h2 k hk
  · rw [e _ (by omega)]; exact h3
  · rw [e _ (by omega)]; exact h4 k hk
  · rw [e _ (by omega)]; exact h5 k hk
  · rw [e _ (by omega)]; exact h6 k hk
  · rw [e _ (by omega)]; exact h7 k hk
  · rw [e _ (by omega)]; exact h8 k hk hj
def RW (r0 r1 r2 r3 r4 r5 : TS) : Nat → TS := fun j => match j with | 0 => r0 | 1 => r1 | 2 => r2 | 3 => r3 | 4 => r4 | _ => r5
def RH (hi : TH) (w : Nat → TS) (m : TM) : Prop := ∃ a z : Nat, H_ol hi = nI a ∧ a < 6 ∧ H_sz hi = nI z ∧ z ≤ 6 ∧ M_ps m = nI z ∧ ∀ i, i < z → TR (w ((a + i) % 6)) (fun k => M_pa m (281 * i + k)) ∧ TI (w ((a + i) % 6))
def upR (w : Nat → TS) (q : Nat) (u : TS) : Nat → TS := fun j => if j = q then cpT (w j) u else w j
theorem rem6 {s : Nat} (h : s < 1000) : nI s - nI s / (6 : Int32) * (6 : Int32) = nI (s % 6) := pk_rem (d := 6) (by omega) (by omega) (by omega)
def svH (hi : TH) (a z : Nat) : TH := if z < 6 then H_sz_ hi (nI (z + 1)) else H_ol_ hi (nI ((a + 1) % 6))
theorem e_save {fu : Nat} {hi : TH} {r0 r1 r2 r3 r4 r5 now : TS} {a z : Nat} (ha : H_ol hi = nI a) (ha6 : a < 6) (hz : H_sz hi = nI z) (hz6 : z ≤ 6) :
    ∃ q0 q1 q2 q3 q4 q5, f_X0_save fu hi r0 r1 r2 r3 r4 r5 now = some (svH hi a z, q0, q1, q2, q3, q4, q5) ∧ ∀ j, j < 6 → RW q0 q1 q2 q3 q4 q5 j = upR (RW r0 r1 r2 r3 r4 r5) ((a + z) % 6) now j := by
  have fin : (if (6 : Int32) ≤ nI z then (some (H_ol_ hi (nI (a + 1) - nI (a + 1) / (6 : Int32) * (6 : Int32))) : Option TH) else some (H_sz_ hi (nI (z + 1)))) = some (svH hi a z) := by
    unfold svH
    by_cases h : z < 6
    · rw [if_neg (show ¬ (6 : Int32) ≤ nI z from n_nle (a := 6) (by omega) (by omega) h), if_pos h]
    · rw [if_pos (show (6 : Int32) ≤ nI z from n_le' (a := 6) (by omega) (by omega) (by omega)), if_neg h, rem6 (by omega)]
  have fin2 : ∀ (p0 p1 p2 p3 p4 p5 : TS), (if (6 : Int32) ≤ nI z then (some (H_ol_ hi (nI (a + 1) - nI (a + 1) / (6 : Int32) * (6 : Int32)), p0, p1, p2, p3, p4, p5) : Option (TH × TS × TS × TS × TS × TS × TS)) else some (H_sz_ hi (nI (z + 1)), p0, p1, p2, p3, p4, p5)) = some (svH hi a z, p0, p1, p2, p3, p4, p5) := by
    intro p0 p1 p2 p3 p4 p5
    by_cases h : (6 : Int32) ≤ nI z
    · rw [if_pos h] at fin ⊢
      rw [Option.some.inj fin]
    · rw [if_neg h] at fin ⊢
      rw [Option.some.inj fin]
  have hq : (a + z) % 6 < 6 := Nat.mod_lt _ (by omega)
  unfold f_X0_save
  simp only [nm_d, ha, hz, n_a, n_p1, e_copyFrom, bd_s]
  rw [rem6 (by omega), ix_n hq (by omega)]
  generalize (a + z) % 6 = q at hq ⊢
  match q, hq with
  | 0, _ =>
    rw [if_pos (by decide), fin2]
    exact ⟨_, _, _, _, _, _, rfl, fun j hj => by rcases (show j = 0 ∨ j = 1 ∨ j = 2 ∨ j = 3 ∨ j = 4 ∨ j = 5 by omega) with rfl | rfl | rfl | rfl | rfl | rfl <;> rfl⟩
  | 1, _ =>
    rw [if_neg (by decide), if_pos (by decide), fin2]
    exact ⟨_, _, _, _, _, _, rfl, fun j hj => by rcases (show j = 0 ∨ j = 1 ∨ j = 2 ∨ j = 3 ∨ j = 4 ∨ j = 5 by omega) with rfl | rfl | rfl | rfl | rfl | rfl <;> rfl⟩
  | 2, _ =>
    rw [if_neg (by decide), if_neg (by decide), if_pos (by decide), fin2]
    exact ⟨_, _, _, _, _, _, rfl, fun j hj => by rcases (show j = 0 ∨ j = 1 ∨ j = 2 ∨ j = 3 ∨ j = 4 ∨ j = 5 by omega) with rfl | rfl | rfl | rfl | rfl | rfl <;> rfl⟩
  | 3, _ =>
    rw [if_neg (by decide), if_neg (by decide), if_neg (by decide), if_pos (by decide), fin2]
    exact ⟨_, _, _, _, _, _, rfl, fun j hj => by rcases (show j = 0 ∨ j = 1 ∨ j = 2 ∨ j = 3 ∨ j = 4 ∨ j = 5 by omega) with rfl | rfl | rfl | rfl | rfl | rfl <;> rfl⟩
  | 4, _ =>
    rw [if_neg (by decide), if_neg (by decide), if_neg (by decide), if_neg (by decide), if_pos (by decide), fin2]
    exact ⟨_, _, _, _, _, _, rfl, fun j hj => by rcases (show j = 0 ∨ j = 1 ∨ j = 2 ∨ j = 3 ∨ j = 4 ∨ j = 5 by omega) with rfl | rfl | rfl | rfl | rfl | rfl <;> rfl⟩
  | 5, _ =>
    rw [if_neg (by decide), if_neg (by decide), if_neg (by decide), if_neg (by decide), if_neg (by decide), if_pos (by decide), fin2]
    exact ⟨_, _, _, _, _, _, rfl, fun j hj => by rcases (show j = 0 ∨ j = 1 ∨ j = 2 ∨ j = 3 ∨ j = 4 ∨ j = 5 by omega) with rfl | rfl | rfl | rfl | rfl | rfl <;> rfl⟩
def sh (f : Nat → Int32) (k : Nat) : Nat → Int32 := fun j => if j < k then f (j + 281) else f j
theorem sh_0 (f : Nat → Int32) : sh f 0 = f := by
  funext j
  unfold sh
  rw [if_neg (by omega)]
theorem sh_s (f : Nat → Int32) (k : Nat) : upd (sh f k) k (sh f k (k + 281)) = sh f (k + 1) := by
  funext j
  by_cases e : j = k
  · rw [e, pk_us]
    unfold sh
    rw [if_neg (by omega), if_pos (by omega)]
  · rw [pk_un e]
    unfold sh
    by_cases h : j < k
    · rw [if_pos h, if_pos (by omega)]
    · rw [if_neg h, if_neg (by omega)]
theorem e_notes {fu : Nat} {m : TM} {z : Nat} (hfu : 2000 ≤ fu) (hz : M_ps m = nI z) (hz6 : z ≤ 6) :
    f_X5_notes fu m = some (M_ps_ (M_pa_ m (if z = 6 then fl (M_ss m) (sh (M_pa m) 1405) (281 * 5) 281 else fl (M_ss m) (M_pa m) (281 * z) 281)) (nI (if z = 6 then 6 else z + 1))) := by
  have cp : ∀ (m : TM) (z : Nat), M_ps m = nI z → z < 6 → lf_X5_notes_52 fu fu (0 : Int32) m = some (M_pa_ m (fl (M_ss m) (M_pa m) (281 * z) 281)) := by
    intro m z hz hz6
    have h := cp_loop (F := lb_X5_notes_52 fu) 281 (fun k => M_pa_ m (fl (M_ss m) (M_pa m) (281 * z) k)) (fun rec => by
      unfold lb_X5_notes_52
      exact if_pos (n_le' (a := 281) (by omega) (by omega) (Nat.le_refl 281))) (fun rec k hk => by
      unfold lb_X5_notes_52
      rw [if_neg (show ¬ (281 : Int32) ≤ nI k from n_nle (a := 281) (by omega) (by omega) hk)]
      simp only [nm_d]
      rw [show M_ps (M_pa_ m (fl (M_ss m) (M_pa m) (281 * z) k)) = nI z from hz, n_281, n_a, ix_n hk (by omega), ix_n (by omega) (by omega), n_p1, n_cl (by omega), n_cl (by omega), ← fl_s (M_ss m) (M_pa m) (281 * z) k]
      rfl) fu 0 (by omega) (by omega)
    rw [fl_0] at h
    exact h
  have shl : lf_X5_notes_11 fu fu (0 : Int32) m = some (M_pa_ m (sh (M_pa m) 1405)) := by
    have h := cp_loop (F := lb_X5_notes_11 fu) 1405 (fun k => M_pa_ m (sh (M_pa m) k)) (fun rec => by
      unfold lb_X5_notes_11
      exact if_pos (n_le' (a := 1405) (by omega) (by omega) (Nat.le_refl 1405))) (fun rec k hk => by
      unfold lb_X5_notes_11
      rw [if_neg (show ¬ (1405 : Int32) ≤ nI k from n_nle (a := 1405) (by omega) (by omega) hk)]
      simp only [nm_d]
      rw [n_p281, ix_n (by omega) (by omega), ix_n (by omega) (by omega), n_p1, n_cl (by omega), n_cl (by omega), ← sh_s (M_pa m) k]
      rfl) fu 0 (by omega) (by omega)
    rw [sh_0] at h
    exact h
  unfold f_X5_notes
  simp only [nm_d, jn_e]
  by_cases h : z = 6
  · subst h
    rw [if_neg (by rw [hz]; decide), shl, bd_s, if_pos rfl, if_pos rfl]
    rw [show M_ps (M_pa_ m (sh (M_pa m) 1405)) = nI 6 from hz]
    rw [show nI 6 - (1 : Int32) = nI 5 from by decide]
    rw [cp _ 5 rfl (by omega), bd_s]
    rfl
  · rw [if_pos (by rw [hz]; exact fun e => h ((n_eq (by omega) (by omega)).mp e)), cp m z hz (by omega), bd_s, if_neg h, if_neg h]
    rw [show M_ps (M_pa_ m (fl (M_ss m) (M_pa m) (281 * z) 281)) = nI z from hz, n_p1]
theorem r_save {fu : Nat} {hi : TH} {r0 r1 r2 r3 r4 r5 now : TS} {m : TM} (hfu : 2000 ≤ fu) (hH : RH hi (RW r0 r1 r2 r3 r4 r5) m) (hT : TR now (M_ss m)) (hI : TI now) :
    ∃ (h' : TH) (q0 q1 q2 q3 q4 q5 : TS) (pa' : Nat → Int32) (ps' : Int32), f_X0_save fu hi r0 r1 r2 r3 r4 r5 now = some (h', q0, q1, q2, q3, q4, q5) ∧ f_X5_notes fu m = some (M_ps_ (M_pa_ m pa') ps') ∧ RH h' (RW q0 q1 q2 q3 q4 q5) (M_ps_ (M_pa_ m pa') ps') := by
  obtain ⟨a, z, ha, ha6, hz, hz6, hps, hrow⟩ := hH
  obtain ⟨q0, q1, q2, q3, q4, q5, hs, hw⟩ := e_save (fu := fu) (r0 := r0) (r1 := r1) (r2 := r2) (r3 := r3) (r4 := r4) (r5 := r5) (now := now) ha ha6 hz hz6
  refine ⟨_, q0, q1, q2, q3, q4, q5, _, _, hs, e_notes hfu hps hz6, ?_⟩
  by_cases h : z = 6
  · subst h
    rw [if_pos rfl, if_pos rfl]
    refine ⟨(a + 1) % 6, 6, rfl, Nat.mod_lt _ (by omega), hz, by omega, rfl, fun i hi => ?_⟩
    rw [hw _ (Nat.mod_lt _ (by omega))]
    unfold upR
    by_cases e : i = 5
    · subst e
      rw [if_pos (by omega)]
      exact ⟨TR_cong (TR_cp hT) (fun k hk => fl_in hk), TI_cp hI⟩
    · rw [if_neg (by omega), show ((a + 1) % 6 + i) % 6 = (a + (i + 1)) % 6 by omega]
      obtain ⟨h1, h2⟩ := hrow (i + 1) (by omega)
      refine ⟨TR_cong h1 (fun k hk => ?_), h2⟩
      show fl (M_ss m) (sh (M_pa m) 1405) (281 * 5) 281 (281 * i + k) = M_pa m (281 * (i + 1) + k)
      rw [fl_out (by omega)]
      unfold sh
      rw [if_pos (by omega)]
      congr 1
      omega
  · rw [if_neg h, if_neg h]
    have hsv : svH hi a z = H_sz_ hi (nI (z + 1)) := if_pos (by omega)
    rw [hsv]
    refine ⟨a, z + 1, ha, ha6, rfl, by omega, rfl, fun i hi => ?_⟩
    rw [hw _ (Nat.mod_lt _ (by omega))]
    unfold upR
    by_cases e : i = z
    · subst e
      rw [if_pos rfl]
      exact ⟨TR_cong (TR_cp hT) (fun k hk => fl_in hk), TI_cp hI⟩
    · rw [if_neg (by omega)]
      obtain ⟨h1, h2⟩ := hrow i (by omega)
      refine ⟨TR_cong h1 (fun k hk => ?_), h2⟩
      show fl (M_ss m) (M_pa m) (281 * z) 281 (281 * i + k) = M_pa m (281 * i + k)
      have : 281 * i + 281 ≤ 281 * z := by omega
      rw [fl_out (by omega)]
