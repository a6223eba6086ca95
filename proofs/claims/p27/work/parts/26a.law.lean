/-! the law's loop -/
theorem sm_ir {α β γ : Type} {b : β} {f : α → γ} {g : β → γ} : sm (Sum.inr b) f g = g b := rfl
theorem e_cell {L : Nat} {xs : Nat → Int32} {e : Nat} (hL : L ≤ 1000) (he : e ≤ 1000) : ∃ v, f_L_cell L xs (nI e) = some v := by
  unfold f_L_cell
  try dsimp only
  repeat rw [nm_d]
  by_cases h : nI L ≤ nI e
  · rw [if_pos h]
    exact ⟨_, rfl⟩
  · rw [if_neg h]
    rw [n_le (by omega) (by omega)] at h
    rw [ix_n (by omega) (by omega)]
    exact ⟨_, rfl⟩
theorem m_bit {k0 k1 j : Nat} (h0 : k0 ≤ 1) (h1 : k1 ≤ 1) (hj : j < 2) (hk : (if j = 0 then k0 else k1) = 1) : ¬ (nI (k0 + 2 * k1) >>> (nI j &&& 31)) &&& (1 : Int32) = 0 := by
  rcases (show (k0 = 0 ∨ k0 = 1) ∧ (k1 = 0 ∨ k1 = 1) ∧ (j = 0 ∨ j = 1) by omega) with ⟨rfl | rfl, rfl | rfl, rfl | rfl⟩ <;> first | (exfalso; revert hk; decide) | decide
def PF (t : Option (Bool ⊕ (Int32 × TS × TV × TS × TV × TH × TS × TS × TS × TS × TS × TS × (Nat → Int32) × TS × TS))) : Prop := ∃ (z : Nat) (now : TS) (sw : TV) (tr : TS) (ts : TV) (hi : TH) (q0 q1 q2 q3 q4 q5 : TS) (kp : Nat → Int32) (i0 i1 : TS), t = some (Sum.inr (nI z, now, sw, tr, ts, hi, q0, q1, q2, q3, q4, q5, kp, i0, i1)) ∧ HI 2000 hi (RW q0 q1 q2 q3 q4 q5) z
set_option maxHeartbeats 8000000 in
theorem k_law {fu L : Nat} {xs : Nat → Int32} {tx : TX} (hL : L ≤ 1000) (hfu : 2000 ≤ fu) : ∀ (n e z : Nat) (now : TS) (sw : TV) (tr : TS) (ts : TV) (hi : TH) (r0 r1 r2 r3 r4 r5 : TS) (kp : Nat → Int32) (i0 i1 : TS), e ≤ 36 → 36 - e < n → GOOD (50 * e) now → HI (50 * e) hi (RW r0 r1 r2 r3 r4 r5) z → KI (50 * e) kp i0 i1 →
    PF (lq_16 (lb_L_law_12 fu tx L xs) n (nI z) (nI e) now sw tr ts hi r0 r1 r2 r3 r4 r5 kp i0 i1) := by
  intro n
  induction n with
  | zero => intro e z now sw tr ts hi r0 r1 r2 r3 r4 r5 kp i0 i1 h1 h2; omega
  | succ n ih =>
    intro e z now sw tr ts hi r0 r1 r2 r3 r4 r5 kp i0 i1 he hn hG hH hKI
    show PF (lb_L_law_12 fu tx L xs (lq_16 (lb_L_law_12 fu tx L xs) n) (nI z) (nI e) now sw tr ts hi r0 r1 r2 r3 r4 r5 kp i0 i1)
    generalize lq_16 (lb_L_law_12 fu tx L xs) n = rc at ih ⊢
    unfold lb_L_law_12
    by_cases h36 : 36 ≤ e
    · rw [if_pos (show (36 : Int32) ≤ nI e from n_le' (a := 36) (by omega) (by omega) h36)]
      exact ⟨z, now, sw, tr, ts, hi, r0, r1, r2, r3, r4, r5, kp, i0, i1, rfl, hH.up (by omega)⟩
    · rw [if_neg (show ¬ (36 : Int32) ≤ nI e from n_nle (a := 36) (by omega) (by omega) (by omega))]
      obtain ⟨N, K, A, g, hv⟩ := GV_ex hG.1
      obtain ⟨k0, k1, hk0, hk1, ek0, ek1, hm⟩ := hKI.mask hfu
      have hN2 : N ≤ 60 := hv.2.2.1
      obtain ⟨v, ev⟩ := e_cell (xs := xs) (L := L) (e := e) hL (by omega)
      obtain ⟨w1, t1⟩ := v_tale (fu := fu) (v := sw) (hi := hi) (tx := tx) hG.1 hv hm hfu
      obtain ⟨⟨r, now', sw', h'⟩, ed, hS⟩ := d_does (fu := fu) (sw := w1) (tx := tx) (v := v) (show 50 * e ≤ 10000 by omega) hfu hG hH hKI
      rw [ev, bd_s]
      try dsimp only
      repeat rw [nm_d]
      rw [t1, bd_s]
      try dsimp only
      repeat rw [nm_d]
      rw [ed, bd_s]
      try dsimp only
      repeat rw [nm_d]
      obtain ⟨hi', q0, q1, q2, q3, q4, q5⟩ := h'
      have hz6 : z ≤ 6 := by
        obtain ⟨a, -, -, -, hz6, -⟩ := hH
        exact hz6
      have hS : ((r.toInt ≤ -50000 ∧ now' = now ∧ (hi', q0, q1, q2, q3, q4, q5) = (hi, r0, r1, r2, r3, r4, r5)) ∨ (-50000 < r.toInt ∧ GOOD (50 * e + 50) now' ∧ HI (50 * e) hi' (RW q0 q1 q2 q3 q4 q5) (nx z) ∧ TOP hi' (RW q0 q1 q2 q3 q4 q5) now)) := hS
      have hKI' : KI (50 * (e + 1)) kp i0 i1 := hKI.up (by omega)
      clear ed t1 ev hKI
      refine jn_q (fun K' => ∀ x : Int32, ((x = 0 ∧ r.toInt ≤ -50000) ∨ (x = 1 ∧ -50000 < r.toInt)) → PF (K' x)) ?_ (fun K51 h51 => ?_)
      · intro x hx
        try dsimp only
        refine jn_q (fun K' => ∀ w : TV, PF (K' w)) ?_ (fun K70 h70 => ?_)
        · intro w2
          try dsimp only
          refine jn_q (fun K' => ∀ z1 : Nat, ((x = 0 ∧ z1 = z) ∨ (x = 1 ∧ z1 = nx z)) → PF (K' (nI z1))) ?_ (fun K93 h93 => ?_)
          · intro z1 hz1
            try dsimp only
            refine jn_q (fun K' => ∀ (z2 : Nat) (nw : TS) (w : TV) (h2 : TH), GOOD (50 * (e + 1)) nw → HI (50 * (e + 1)) h2 (RW q0 q1 q2 q3 q4 q5) z2 → PF (K' (nI z2) nw w h2)) ?_ (fun K134 h134 => ?_)
            · intro z2 nw w3 hx2 gG gH
              try dsimp only
              repeat rw [nm_d]
              refine jn_q (fun K' => ∀ (w : TV) (kp' : Nat → Int32) (j0 j1 : TS), KI (50 * (e + 1)) kp' j0 j1 → PF (K' w kp' j0 j1)) ?_ (fun K185 h185 => ?_)
              · intro w4 kp' j0 j1 gK
                obtain ⟨N2, K2, A2, g2, hv2⟩ := GV_ex gG.1
                obtain ⟨c0, c1, -, -, -, -, hm2⟩ := gK.mask hfu
                have hz2 : H_sz hx2 = nI z2 := by
                  obtain ⟨a, -, -, h, -⟩ := gH
                  exact h
                obtain ⟨eN2, n1, n2, eK2, -⟩ := id hv2
                obtain ⟨y1, a1⟩ := v_c13 (fu := fu) (v := w4) (hi := hx2) (tx := tx) gG.1 hv2 hm2 hfu
                obtain ⟨y2, a2⟩ := v_c0 (fu := fu) (v := y1) (hi := hx2) (tx := tx) gG.1 hv2 hm2 hfu
                obtain ⟨y3, a3⟩ := k_look (fu := fu) (hi := hx2) (tx := tx) (o := (S_sl nw, y2)) gG.1 hv2 hm2 hfu eN2 fu 0 y2 (by omega) (by omega)
                replace a3 : lf_L_law_222 fu tx nw hx2 kp' (S_sl nw, y2) fu (0 : Int32) (0 : Int32) (0 : Int32) (0 : Int32) (0 : Int32) (0 : Int32) y2 = some (Sum.inr (ssum (S_lv nw) N2, ssum (Lo nw N2 g2) N2, ssum (S_se nw) N2, ssum (S_li nw) N2, bI (hno nw g2 N2), y3)) := a3
                obtain ⟨cr, hcr, hcr2⟩ := one_car gG.1 n1 n2 hv2.2.2.2.2.2.2.2.2.2
                have el : ssum (Lo nw N2 g2) N2 = (2 : Int32) * S_sl nw := by
                  rw [eN2]
                  exact f_loads (by omega) hcr hcr2
                obtain ⟨s1, s2, s3⟩ := id gG.2.1
                rw [eN2, n_cl (by omega)] at s1 s2 s3
                obtain ⟨cn, hcn, hcn2⟩ := f_none hv2
                rw [hno_x hcn2 N2 hcn] at a3
                try dsimp only
                rw [a1, bd_s]
                try dsimp only
                repeat rw [nm_d]
                rw [if_pos hz2, a2, bd_s]
                try dsimp only
                repeat rw [nm_d]
                rw [a3, bd_s]
                try dsimp only
                repeat rw [nm_d]
                rw [sm_ir]
                try dsimp only
                repeat rw [nm_d]
                rw [if_neg (show ¬ bI true = 0 by decide), if_neg (show ¬ ¬ ssum (Lo nw N2 g2) N2 = (2 : Int32) * S_sl nw from fun h => h el), v_a0, bd_s]
                try dsimp only
                repeat rw [nm_d]
                rw [if_neg (show ¬ ¬ ssum (S_se nw) N2 = S_ac nw 0 from fun h => h s2), v_a1, bd_s]
                try dsimp only
                repeat rw [nm_d]
                rw [if_neg (show ¬ ¬ ssum (S_li nw) N2 = S_ac nw 1 from fun h => h s3), v_a6, bd_s]
                try dsimp only
                repeat rw [nm_d]
                rw [bd_s, nm_d, bd_s, nm_d]
                rw [if_pos s1]
                obtain ⟨pl, y4, a4, p1, p2⟩ := v_p0 (fu := fu) (v := y3) gG.1 hv2 hfu
                obtain ⟨y5, a5⟩ := v_c11 (fu := fu) (v := y4) (hi := hx2) (tx := tx) gG.1 hv2 hm2 hfu
                rw [a4, bd_s]
                try dsimp only
                repeat rw [nm_d]
                rw [a5, bd_s]
                try dsimp only
                repeat rw [nm_d]
                refine jn_q (fun K' => ∀ w : TV, PF (K' w)) ?_ (fun K537 h537 => ?_)
                · intro w6
                  obtain ⟨rr, tr', ts', b1, b2, b3⟩ := v_until (fu := fu) (tr := tr) (ts := ts) gG.1 gG.2.1 hv2 hfu
                  obtain ⟨y6, b4⟩ := v_c11 (fu := fu) (v := w6) (hi := hx2) (tx := tx) gG.1 hv2 hm2 hfu
                  try dsimp only
                  rw [b1, bd_s]
                  try dsimp only
                  repeat rw [nm_d]
                  rw [b4, bd_s]
                  try dsimp only
                  repeat rw [nm_d]
                  refine jn_q (fun K' => PF K') ?_ (fun K562 h562 => ?_)
                  · rw [if_pos b2, n_p1]
                    exact ih (e + 1) z2 nw _ _ _ hx2 q0 q1 q2 q3 q4 q5 kp' j0 j1 (by omega) (by omega) gG gH gK
                  · by_cases c9 : od nw (wf g2 N2 A2 N2).2 ≤ 0
                    · rw [if_pos c9]
                      exact h562
                    · rw [if_neg c9, if_neg (show ¬ ¬ rr = 0 from fun h => h (b3 (fun h0 => c9 (by rw [h0]; decide))))]
                      exact h562
                · by_cases c9 : od nw (wf g2 N2 A2 N2).2 = 0
                  · rw [if_neg (show ¬ ¬ od nw (wf g2 N2 A2 N2).2 = 0 from fun h => h c9), if_pos (p1 c9)]
                    exact h537 _
                  · rw [if_pos c9]
                    obtain ⟨h3, j, hj, ej, es⟩ := f_worst gG.1 c9
                    have epl : pl = nI j := (p2 c9).trans ej
                    subst epl
                    obtain ⟨y7, b5⟩ := v_s7 (fu := fu) (v := y5) (i := j) gG.1 hv2 hj hfu
                    obtain ⟨y8, b6⟩ := v_c11 (fu := fu) (v := y7) (hi := hx2) (tx := tx) gG.1 hv2 hm2 hfu
                    obtain ⟨y9, b7⟩ := v_p1 (fu := fu) (v := y8) gG.1 hv2 hfu c9
                    obtain ⟨y10, b8⟩ := v_c4 (fu := fu) (v := y9) (hi := hx2) (tx := tx) gG.1 hv2 hm2 hfu
                    rw [es] at b5
                    rw [b5, bd_s]
                    try dsimp only
                    repeat rw [nm_d]
                    rw [b6, bd_s]
                    try dsimp only
                    repeat rw [nm_d]
                    rw [if_neg (show ¬ ¬ od nw (wf g2 N2 A2 N2).2 = od nw (wf g2 N2 A2 N2).2 from fun h => h rfl), b7, bd_s]
                    try dsimp only
                    repeat rw [nm_d]
                    rw [b8, bd_s]
                    try dsimp only
                    repeat rw [nm_d]
                    rw [if_pos h3]
                    exact h537 _
              · by_cases c : (v >>> ((25 : Int32) &&& 31)) &&& (3 : Int32) = (1 : Int32)
                · rw [if_neg (show ¬ ¬ (v >>> ((25 : Int32) &&& 31)) &&& (3 : Int32) = (1 : Int32) from fun h => h c)]
                  obtain ⟨j, hj, ej⟩ := pk_andE (v >>> ((24 : Int32) &&& 31)) (m := 1) 1 (by decide +kernel)
                  repeat rw [nm_d]
                  rw [ej]
                  obtain ⟨j0, j1, kp', b1, b2, b3⟩ := d_keep (fu := fu) (j := j) hj gG hKI'
                  obtain ⟨N2, K2, A2, g2, hv2⟩ := GV_ex gG.1
                  obtain ⟨m0, m1, x0, x1, f0, f1, hm3⟩ := b2.mask hfu
                  obtain ⟨y, b4⟩ := v_c14 (fu := fu) (v := w3) (hi := hx2) (tx := tx) gG.1 hv2 hm3 hfu
                  rw [b1, bd_s]
                  try dsimp only
                  repeat rw [nm_d]
                  rw [v_a4, bd_s]
                  try dsimp only
                  repeat rw [nm_d]
                  rw [if_neg (show ¬ ¬ S_ac nw 4 = S_ac nw 4 from fun h => h rfl), b4, bd_s]
                  try dsimp only
                  repeat rw [nm_d]
                  have hb : (if j = 0 then m0 else m1) = 1 := by
                    rcases (show j = 0 ∨ j = 1 by omega) with rfl | rfl
                    · rw [if_pos rfl]
                      exact (n_eq (by omega) (by omega)).mp (f0.symm.trans b3)
                    · rw [if_neg (by decide)]
                      exact (n_eq (by omega) (by omega)).mp (f1.symm.trans b3)
                  rw [ej, if_pos (m_bit x0 x1 hj hb)]
                  exact h185 _ _ _ _ b2
                · rw [if_pos c]
                  exact h185 _ _ _ _ hKI'
            · rcases hx with ⟨rfl, hr⟩ | ⟨rfl, hr⟩
              · rw [if_pos rfl]
                rcases hz1 with ⟨-, rfl⟩ | ⟨h0, -⟩
                · rcases hS with ⟨-, en, e6⟩ | ⟨hr2, -⟩
                  · simp only [Prod.mk.injEq] at e6
                    obtain ⟨x0, x1, x2, x3, x4, x5, x6⟩ := e6
                    exact h134 _ _ _ _ (by rw [en]; exact hG.up (by omega)) (by rw [x0, x1, x2, x3, x4, x5, x6]; exact hH.up (by omega))
                  · omega
                · exact absurd h0 (by decide)
              · rw [if_neg (show ¬ (1 : Int32) = 0 by decide)]
                try dsimp only
                repeat rw [nm_d]
                rcases hz1 with ⟨h0, -⟩ | ⟨-, rfl⟩
                · exact absurd h0 (by decide)
                · rcases hS with ⟨hr2, -⟩ | ⟨-, gG, gH, a, z9, ha, ha6, hz9, hz91, hz96, hE⟩
                  · omega
                  · by_cases c : (v >>> ((27 : Int32) &&& 31)) &&& (3 : Int32) = 0
                    · rw [if_neg (show ¬ ¬ (v >>> ((27 : Int32) &&& 31)) &&& (3 : Int32) = 0 from fun h => h c)]
                      obtain ⟨a', ha', ha6', hz', hz6', hrow⟩ := gH
                      have ea : a = a' := (n_eq (by omega) (by omega)).mp (ha.symm.trans ha')
                      have ez : z9 = nx z := (n_eq (by omega) (by omega)).mp (hz9.symm.trans hz')
                      rw [← ea, ← ez] at hrow
                      rw [← ez]
                      have gR := hrow (z9 - 1) (by omega)
                      have gE : EQ (cpT now' (RW q0 q1 q2 q3 q4 q5 ((a + (z9 - 1)) % 6))) now := (EQ_cp _ _).tr hE
                      have gN : GOOD (50 * e) (cpT now' (RW q0 q1 q2 q3 q4 q5 ((a + (z9 - 1)) % 6))) := GOOD_cp gR
                      obtain ⟨y, b1⟩ := v_tale (fu := fu) (v := w2) (hi := H_sz_ hi' (nI (z9 - 1))) (tx := tx) gN.1 (GV_eq gE hv) hm hfu
                      rw [TL_eq gE hN2] at b1
                      rw [d_undo ha ha6 hz9 hz96 hz91, bd_s]
                      try dsimp only
                      repeat rw [nm_d]
                      rw [n_m1 hz91, if_neg (show ¬ ¬ nI (z9 - 1) = nI (z9 - 1) from fun h => h rfl), b1, bd_s]
                      try dsimp only
                      repeat rw [nm_d]
                      rw [if_pos (cmp_0 _), sub_m1, n_m1 hz91]
                      exact h134 (z9 - 1) _ _ _ (gN.up (by omega)) ⟨a, ha, ha6, rfl, by omega, fun i hi => (hrow i (by omega)).up (by omega)⟩
                    · rw [if_pos c]
                      exact h134 _ _ _ _ (gG.up (by omega)) (gH.up (by omega))
          · rcases hx with ⟨rfl, hr⟩ | ⟨rfl, hr⟩
            · rw [if_neg (show ¬ ¬ (0 : Int32) = 0 by decide)]
              exact h93 z (Or.inl ⟨rfl, rfl⟩)
            · rw [if_pos (show ¬ (1 : Int32) = 0 by decide)]
              by_cases c : z = 6
              · subst c
                rw [if_pos (show (6 : Int32) ≤ nI 6 by decide)]
                exact h93 6 (Or.inr ⟨rfl, rfl⟩)
              · rw [if_neg (show ¬ (6 : Int32) ≤ nI z from n_nle (a := 6) (by omega) (by omega) (by omega)), nm_d, n_p1]
                exact h93 (z + 1) (Or.inr ⟨rfl, (if_pos (show z < 6 by omega)).symm⟩)
        · rcases hx with ⟨rfl, hr⟩ | ⟨rfl, hr⟩
          · rw [if_neg (show ¬ ¬ (0 : Int32) = 0 by decide)]
            rcases hS with ⟨-, en, e6⟩ | ⟨hr2, -⟩
            · obtain ⟨y, b1⟩ := v_tale (fu := fu) (v := sw') (hi := hi') (tx := tx) hG.1 hv hm hfu
              rw [en, b1, bd_s]
              try dsimp only
              repeat rw [nm_d]
              rw [if_pos (cmp_0 _)]
              exact h70 _
            · omega
          · rw [if_pos (show ¬ (1 : Int32) = 0 by decide)]
            exact h70 _
      · by_cases c : r ≤ (-50000 : Int32)
        · rw [if_pos c]
          exact h51 0 (Or.inl ⟨rfl, by rw [i_le, show (-50000 : Int32).toInt = -50000 from rfl] at c; exact c⟩)
        · rw [if_neg c]
          exact h51 1 (Or.inr ⟨rfl, by rw [i_le, show (-50000 : Int32).toInt = -50000 from rfl] at c; omega⟩)
theorem TI_i : TI i_S := by
  refine ⟨?_, ⟨?_, ?_, ?_, ?_, ?_, ?_⟩, fun k hk => ?_, fun k hk => ?_, ?_, fun j hj => ?_⟩
  · unfold rg
    decide +kernel
  · unfold rg
    decide +kernel
  · unfold rg
    decide +kernel
  · unfold rg
    decide +kernel
  · decide +kernel
  · unfold rg
    decide +kernel
  · unfold rg
    decide +kernel
  · show rg (0 : Int32) (-9999) 9999
    unfold rg
    decide
  · show rg (0 : Int32) 0 100
    unfold rg
    decide
  · show rg (0 : Int32) 0 6
    unfold rg
    decide
  · exfalso
    have hj2 : (j : Int) < (0 : Int32).toInt := hj
    rw [z_0] at hj2
    omega
theorem GOOD_i : GOOD 0 i_S := by
  refine ⟨TI_i, ⟨?_, ?_, ?_⟩, ?_⟩
  · exact (ssum_z _ (fun k _ => rfl)).trans (show (0 : Int32) = 0 + 0 - 0 by decide)
  · exact ssum_z _ (fun k _ => rfl)
  · exact ssum_z _ (fun k _ => rfl)
  · show rg (0 : Int32) 0 ((0 : Nat) : Int)
    unfold rg
    decide
theorem law_true {L : Nat} {xs : Nat → Int32} (hL : L ≤ 260) : f_L_law 2000 L xs i_S i_V i_S i_V i_H i_S i_S i_S i_S i_S i_S i_X nil0 i_S i_S = some true := by
  obtain ⟨z, now, sw, tr, ts, hi, q0, q1, q2, q3, q4, q5, kp, i0, i1, e, a, ha, ha6, hz, hz6, hrow⟩ := k_law (fu := 2000) (L := L) (xs := xs) (tx := i_X) (show L ≤ 1000 by omega) (Nat.le_refl 2000) 2000 0 0 i_S i_V i_S i_V i_H i_S i_S i_S i_S i_S i_S nil0 i_S i_S (by omega) (by omega) GOOD_i ⟨0, rfl, by omega, rfl, by omega, fun i hi => absurd hi (Nat.not_lt_zero i)⟩ ⟨0, 0, by omega, by omega, rfl, rfl, fun h => absurd h (by decide), fun h => absurd h (by decide)⟩
  unfold f_L_law
  rw [show lf_L_law_12 2000 i_X L xs 2000 (0 : Int32) (0 : Int32) i_S i_V i_S i_V i_H i_S i_S i_S i_S i_S i_S nil0 i_S i_S = _ from e, bd_s]
  try dsimp only
  repeat rw [nm_d]
  rw [sm_ir]
  try dsimp only
  by_cases h : z = 0
  · subst h
    rw [d_undo0 hz, bd_s]
    try dsimp only
    repeat rw [nm_d]
    rw [if_neg (show ¬ ¬ nI 0 = 0 by decide), if_neg (show ¬ ¬ (-100002 : Int32) = (-100002 : Int32) by decide)]
  · rw [d_undo ha ha6 hz hz6 (by omega), bd_s]
    try dsimp only
    repeat rw [nm_d]
    rw [if_pos (show ¬ nI z = 0 from fun h0 => h ((n_eq (b := 0) (by omega) (by omega)).mp h0)), n_m1 (by omega), if_neg (show ¬ ¬ nI (z - 1) = nI (z - 1) from fun h0 => h0 rfl)]
