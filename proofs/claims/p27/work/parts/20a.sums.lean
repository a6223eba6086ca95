/-! sums that wrap around -/
theorem q_1 (a f x : Int32) : a + x = a + f + (x - f) := by grind
theorem q_2 (a d f : Int32) : a + d + f = a + f + d := by grind
theorem q_lv (a b c v l : Int32) : a + b - c + (v - l) = a + (v - l) + b - c := by grind
theorem q_ra (a b c l x : Int32) : a + b - c + (x + l - x) = a + (b + l) - c := by grind
theorem q_li (b x l : Int32) : b + (x + l - x) = b + l := by grind
theorem q_p0 (s A : Int32) : s = s - (A - A) := by grind
theorem q_p1 (s A c l x : Int32) : s - (A - c) + (l - x) = s + l - (A + x - c) := by grind
theorem q_p2 (s A c l : Int32) : s - (A - c) + l = s + l - (A - c) := by grind
theorem q_p5 (s A : Int32) : s = s + (A - A) := by grind
theorem q_p3 (s A c l x : Int32) : s + (A - c) + (l + x) = s + l + (A + x - c) := by grind
theorem q_p4 (s A c l : Int32) : s + (A - c) + l = s + l + (A - c) := by grind
theorem q_f1 (a b c A : Int32) : a + b - c - (A - c) = a + b - A := by grind
theorem q_f2 (c A : Int32) : c + (A - c) = A := by grind
def ssum (f : Nat → Int32) : Nat → Int32
  | 0 => 0
  | n + 1 => ssum f n + f n
theorem ssum_c {f g : Nat → Int32} : ∀ n : Nat, (∀ k, k < n → f k = g k) → ssum f n = ssum g n
  | 0, _ => rfl
  | n + 1, h => by
    show ssum f n + f n = ssum g n + g n
    rw [ssum_c n (fun k hk => h k (by omega)), h n (by omega)]
theorem ssum_u {f : Nat → Int32} {i : Nat} {x : Int32} : ∀ n : Nat, i < n → ssum (upd f i x) n = ssum f n + (x - f i)
  | 0, h => absurd h (Nat.not_lt_zero i)
  | n + 1, h => by
    show ssum (upd f i x) n + upd f i x n = ssum f n + f n + (x - f i)
    by_cases e : i = n
    · have e1 : ssum (upd f i x) n = ssum f n := ssum_c n (fun k hk => pk_un (by omega))
      rw [e1, ← e, pk_us]
      exact q_1 _ _ _
    · rw [ssum_u n (by omega), pk_un (by omega)]
      exact q_2 _ _ _
theorem ssum_z {f : Nat → Int32} : ∀ n : Nat, (∀ k, k < n → f k = 0) → ssum f n = 0
  | 0, _ => rfl
  | n + 1, h => by
    show ssum f n + f n = 0
    rw [ssum_z n (fun k hk => h k (by omega)), h n (by omega)]
    rfl
/-! two states that are the same -/
def EQ (u v : TS) : Prop := S_sl u = S_sl v ∧ S_jb u = S_jb v ∧ (∀ k, k < 8 → S_nu u k = S_nu v k) ∧ (∀ k, k < 60 → S_lv u k = S_lv v k) ∧ (∀ k, k < 60 → S_fo u k = S_fo v k) ∧ (∀ k, k < 60 → S_se u k = S_se v k) ∧ (∀ k, k < 60 → S_li u k = S_li v k) ∧ (∀ k, k < 24 → S_jr u k = S_jr v k) ∧ (∀ k, k < 7 → S_ac u k = S_ac v k)
theorem EQ_cp (u v : TS) : EQ (cpT u v) v := ⟨rfl, rfl, fun k hk => sb_cpy0 hk, fun k hk => sb_cpy0 hk, fun k hk => sb_cpy0 hk, fun k hk => sb_cpy0 hk, fun k hk => sb_cpy0 hk, fun k hk => sb_cpy0 hk, fun k hk => sb_cpy0 hk⟩
theorem EQ.rf (u : TS) : EQ u u := ⟨rfl, rfl, fun _ _ => rfl, fun _ _ => rfl, fun _ _ => rfl, fun _ _ => rfl, fun _ _ => rfl, fun _ _ => rfl, fun _ _ => rfl⟩
theorem EQ.tr {u v w : TS} (h : EQ u v) (h' : EQ v w) : EQ u w := by
  obtain ⟨a1, a2, a3, a4, a5, a6, a7, a8, a9⟩ := h
  obtain ⟨b1, b2, b3, b4, b5, b6, b7, b8, b9⟩ := h'
  exact ⟨a1.trans b1, a2.trans b2, fun k hk => (a3 k hk).trans (b3 k hk), fun k hk => (a4 k hk).trans (b4 k hk), fun k hk => (a5 k hk).trans (b5 k hk), fun k hk => (a6 k hk).trans (b6 k hk), fun k hk => (a7 k hk).trans (b7 k hk), fun k hk => (a8 k hk).trans (b8 k hk), fun k hk => (a9 k hk).trans (b9 k hk)⟩
/-! the accounts -/
def SI (u : TS) : Prop := ssum (S_lv u) (S_sl u).toNatClampNeg = S_ac u 6 + S_ac u 1 - S_ac u 0 ∧ ssum (S_se u) (S_sl u).toNatClampNeg = S_ac u 0 ∧ ssum (S_li u) (S_sl u).toNatClampNeg = S_ac u 1
theorem EQ.si {u v : TS} (h : EQ u v) (hI : TI v) (hs : SI v) : SI u := by
  obtain ⟨N, K, H, A, eN, hN1, hN2, -⟩ := hI.nat
  obtain ⟨h1, h2, h3, h4, h5, h6, h7, h8, h9⟩ := h
  obtain ⟨s1, s2, s3⟩ := hs
  rw [eN, n_cl (by omega)] at s1 s2 s3
  unfold SI
  rw [h1, h9 6 (by omega), h9 1 (by omega), h9 0 (by omega), eN, n_cl (by omega)]
  exact ⟨(ssum_c N (fun k hk => h4 k (by omega))).trans s1, (ssum_c N (fun k hk => h6 k (by omega))).trans s2, (ssum_c N (fun k hk => h7 k (by omega))).trans s3⟩
theorem SI_put {u : TS} {i : Nat} {v : Int32} (h : SI u) (hi : i < (S_sl u).toNatClampNeg) : SI (putT u i v) := by
  obtain ⟨h1, h2, h3⟩ := h
  refine ⟨?_, ?_, ?_⟩
  · show ssum (upd (S_lv u) i v) (S_sl u).toNatClampNeg = upd (S_ac u) 6 (S_ac u 6 + (v - S_lv u i)) 6 + upd (S_ac u) 6 (S_ac u 6 + (v - S_lv u i)) 1 - upd (S_ac u) 6 (S_ac u 6 + (v - S_lv u i)) 0
    rw [ssum_u _ hi, pk_us, pk_un (k := 6) (j := 1) (by omega), pk_un (k := 6) (j := 0) (by omega), h1]
    exact q_lv _ _ _ _ _
  · show ssum (S_se u) (S_sl u).toNatClampNeg = upd (S_ac u) 6 (S_ac u 6 + (v - S_lv u i)) 0
    rw [pk_un (k := 6) (j := 0) (by omega)]
    exact h2
  · show ssum (S_li u) (S_sl u).toNatClampNeg = upd (S_ac u) 6 (S_ac u 6 + (v - S_lv u i)) 1
    rw [pk_un (k := 6) (j := 1) (by omega)]
    exact h3
theorem SI_ra {u : TS} {i : Nat} {l : Int32} (h : SI u) (hi : i < (S_sl u).toNatClampNeg) : SI (raT u i l) := by
  obtain ⟨h1, h2, h3⟩ := h
  refine ⟨?_, ?_, ?_⟩
  · show ssum (upd (S_lv u) i (S_lv u i + l)) (S_sl u).toNatClampNeg = upd (S_ac u) 1 (S_ac u 1 + l) 6 + upd (S_ac u) 1 (S_ac u 1 + l) 1 - upd (S_ac u) 1 (S_ac u 1 + l) 0
    rw [ssum_u _ hi, pk_us, pk_un (k := 1) (j := 6) (by omega), pk_un (k := 1) (j := 0) (by omega), h1]
    exact q_ra _ _ _ _ _
  · show ssum (S_se u) (S_sl u).toNatClampNeg = upd (S_ac u) 1 (S_ac u 1 + l) 0
    rw [pk_un (k := 1) (j := 0) (by omega)]
    exact h2
  · show ssum (upd (S_li u) i (S_li u i + l)) (S_sl u).toNatClampNeg = upd (S_ac u) 1 (S_ac u 1 + l) 1
    rw [ssum_u _ hi, pk_us, h3]
    exact q_li _ _ _
theorem ssum_pL {u : TS} {b : Nat → Bool} {L : Nat → Int32} {p q o : Int32} : ∀ k : Nat, ssum (pL u b L p q o) k = ssum (S_lv u) k - (pA u b L p q o k - S_ac u 0)
  | 0 => q_p0 _ _
  | k + 1 => by
    show ssum (pL u b L p q o) k + pL u b L p q o k = ssum (S_lv u) k + S_lv u k - ((if b k = false then pA u b L p q o k + pS u L p q o k else pA u b L p q o k) - S_ac u 0)
    rw [ssum_pL k]
    unfold pL
    by_cases c : b k = false
    · rw [if_pos c, if_pos c]
      exact q_p1 _ _ _ _ _
    · rw [if_neg c, if_neg c]
      exact q_p2 _ _ _ _
theorem ssum_pE {u : TS} {b : Nat → Bool} {L : Nat → Int32} {p q o : Int32} : ∀ k : Nat, ssum (pE u b L p q o) k = ssum (S_se u) k + (pA u b L p q o k - S_ac u 0)
  | 0 => q_p5 _ _
  | k + 1 => by
    show ssum (pE u b L p q o) k + pE u b L p q o k = ssum (S_se u) k + S_se u k + ((if b k = false then pA u b L p q o k + pS u L p q o k else pA u b L p q o k) - S_ac u 0)
    rw [ssum_pE k]
    unfold pE
    by_cases c : b k = false
    · rw [if_pos c, if_pos c]
      exact q_p3 _ _ _ _ _
    · rw [if_neg c, if_neg c]
      exact q_p4 _ _ _ _
theorem SI_pass {u : TS} {b : Nat → Bool} {L : Nat → Int32} {p q o : Int32} {N : Nat} (h : SI u) (hN : S_sl u = nI N) (hN2 : N ≤ 60) : SI (pU u b L p q o N) := by
  obtain ⟨h1, h2, h3⟩ := h
  rw [hN, n_cl (by omega)] at h1 h2 h3
  have eS : S_sl (pU u b L p q o N) = nI N := hN
  unfold SI
  rw [eS, n_cl (by omega)]
  refine ⟨?_, ?_, ?_⟩
  · show ssum (fl (pL u b L p q o) (S_lv u) 0 N) N = upd (S_ac u) 0 (pA u b L p q o N) 6 + upd (S_ac u) 0 (pA u b L p q o N) 1 - upd (S_ac u) 0 (pA u b L p q o N) 0
    rw [ssum_c (g := pL u b L p q o) N (fun k hk => fl_in0 hk), ssum_pL, pk_us, pk_un (k := 0) (j := 6) (by omega), pk_un (k := 0) (j := 1) (by omega), h1]
    exact q_f1 _ _ _ _
  · show ssum (fl (pE u b L p q o) (S_se u) 0 N) N = upd (S_ac u) 0 (pA u b L p q o N) 0
    rw [ssum_c (g := pE u b L p q o) N (fun k hk => fl_in0 hk), ssum_pE, pk_us, h2]
    exact q_f2 _ _
  · show ssum (S_li u) N = upd (S_ac u) 0 (pA u b L p q o N) 1
    rw [pk_un (k := 0) (j := 1) (by omega)]
    exact h3
theorem ac3_n {z : TS} {a w : Int32} {k : Nat} (h2 : k ≠ 2) (h4 : k ≠ 4) (h5 : k ≠ 5) : S_ac (ac3 z a w) k = S_ac z k := by
  unfold ac3
  show upd (upd (upd (S_ac z) 2 (S_ac z 2 + a)) 4 (upd (S_ac z) 2 (S_ac z 2 + a) 4 + 1)) 5 (upd (upd (S_ac z) 2 (S_ac z 2 + a)) 4 (upd (S_ac z) 2 (S_ac z 2 + a) 4 + 1) 5 + w) k = S_ac z k
  rw [pk_un h5, pk_un h4, pk_un h2]
theorem ac3_4 {z : TS} {a w : Int32} : S_ac (ac3 z a w) 4 = S_ac z 4 + 1 := by
  unfold ac3
  show upd (upd (upd (S_ac z) 2 (S_ac z 2 + a)) 4 (upd (S_ac z) 2 (S_ac z 2 + a) 4 + 1)) 5 (upd (upd (S_ac z) 2 (S_ac z 2 + a)) 4 (upd (S_ac z) 2 (S_ac z 2 + a) 4 + 1) 5 + w) 4 = S_ac z 4 + 1
  rw [pk_un (k := 5) (j := 4) (by omega), pk_us, pk_un (k := 2) (j := 4) (by omega)]
theorem SI_ac3 {z : TS} {a w : Int32} (h : SI z) : SI (ac3 z a w) := by
  obtain ⟨h1, h2, h3⟩ := h
  unfold SI
  rw [ac3_n (k := 6) (by omega) (by omega) (by omega), ac3_n (k := 1) (by omega) (by omega) (by omega), ac3_n (k := 0) (by omega) (by omega) (by omega)]
  exact ⟨h1, h2, h3⟩
theorem SI_ac3' {u : TS} {x : Int32} (h : SI u) : SI (S_ac_ u (upd (S_ac u) 3 x)) := by
  obtain ⟨h1, h2, h3⟩ := h
  refine ⟨?_, ?_, ?_⟩
  · show ssum (S_lv u) (S_sl u).toNatClampNeg = upd (S_ac u) 3 x 6 + upd (S_ac u) 3 x 1 - upd (S_ac u) 3 x 0
    rw [pk_un (k := 3) (j := 6) (by omega), pk_un (k := 3) (j := 1) (by omega), pk_un (k := 3) (j := 0) (by omega)]
    exact h1
  · show ssum (S_se u) (S_sl u).toNatClampNeg = upd (S_ac u) 3 x 0
    rw [pk_un (k := 3) (j := 0) (by omega)]
    exact h2
  · show ssum (S_li u) (S_sl u).toNatClampNeg = upd (S_ac u) 3 x 1
    rw [pk_un (k := 3) (j := 1) (by omega)]
    exact h3
/-! a good state; the states that undo can bring back -/
def GOOD (T : Nat) (u : TS) : Prop := TI u ∧ SI u ∧ rg (S_ac u 4) 0 T
theorem GOOD.up {T T' : Nat} {u : TS} (h : GOOD T u) (hT : T ≤ T') : GOOD T' u := ⟨h.1, h.2.1, h.2.2.1, by have := h.2.2.2; omega⟩
theorem GOOD_cp {T : Nat} {u v : TS} (h : GOOD T v) : GOOD T (cpT u v) := by
  obtain ⟨h1, h2, h3⟩ := h
  refine ⟨TI_cp h1, (EQ_cp u v).si h1 h2, ?_⟩
  rw [(EQ_cp u v).2.2.2.2.2.2.2.2 4 (by omega)]
  exact h3
def nx (z : Nat) : Nat := if z < 6 then z + 1 else 6
def HI (T : Nat) (hi : TH) (w : Nat → TS) (z : Nat) : Prop := ∃ a : Nat, H_ol hi = nI a ∧ a < 6 ∧ H_sz hi = nI z ∧ z ≤ 6 ∧ ∀ i, i < z → GOOD T (w ((a + i) % 6))
def TOP (hi : TH) (w : Nat → TS) (u : TS) : Prop := ∃ a z : Nat, H_ol hi = nI a ∧ a < 6 ∧ H_sz hi = nI z ∧ 1 ≤ z ∧ z ≤ 6 ∧ EQ (w ((a + (z - 1)) % 6)) u
theorem HI.up {T T' : Nat} {hi : TH} {w : Nat → TS} {z : Nat} (h : HI T hi w z) (hT : T ≤ T') : HI T' hi w z := by
  obtain ⟨a, h1, h2, h3, h4, h5⟩ := h
  exact ⟨a, h1, h2, h3, h4, fun i hi => (h5 i hi).up hT⟩
theorem h_save {fu T z : Nat} {hi : TH} {r0 r1 r2 r3 r4 r5 now : TS} (hH : HI T hi (RW r0 r1 r2 r3 r4 r5) z) (hG : GOOD T now) :
    ∃ (h' : TH) (q0 q1 q2 q3 q4 q5 : TS), f_X0_save fu hi r0 r1 r2 r3 r4 r5 now = some (h', q0, q1, q2, q3, q4, q5) ∧ HI T h' (RW q0 q1 q2 q3 q4 q5) (nx z) ∧ TOP h' (RW q0 q1 q2 q3 q4 q5) now := by
  obtain ⟨a, ha, ha6, hz, hz6, hrow⟩ := hH
  obtain ⟨q0, q1, q2, q3, q4, q5, hs, hw⟩ := e_save (fu := fu) (r0 := r0) (r1 := r1) (r2 := r2) (r3 := r3) (r4 := r4) (r5 := r5) (now := now) ha ha6 hz hz6
  refine ⟨svH hi a z, q0, q1, q2, q3, q4, q5, hs, ?_, ?_⟩
  · by_cases h : z < 6
    · rw [show svH hi a z = H_sz_ hi (nI (z + 1)) from if_pos h, show nx z = z + 1 from if_pos h]
      refine ⟨a, ha, ha6, rfl, by omega, fun i hi => ?_⟩
      rw [hw _ (Nat.mod_lt _ (by omega))]
      unfold upR
      by_cases e : i = z
      · rw [e, if_pos rfl]
        exact GOOD_cp hG
      · rw [if_neg (by omega)]
        exact hrow i (by omega)
    · have z6 : z = 6 := by omega
      subst z6
      rw [show svH hi a 6 = H_ol_ hi (nI ((a + 1) % 6)) from if_neg h, show nx 6 = 6 from rfl]
      refine ⟨(a + 1) % 6, rfl, Nat.mod_lt _ (by omega), hz, by omega, fun i hi => ?_⟩
      rw [hw _ (Nat.mod_lt _ (by omega))]
      unfold upR
      by_cases e : i = 5
      · rw [if_pos (by omega)]
        exact GOOD_cp hG
      · rw [if_neg (by omega), show ((a + 1) % 6 + i) % 6 = (a + (i + 1)) % 6 by omega]
        exact hrow (i + 1) (by omega)
  · by_cases h : z < 6
    · rw [show svH hi a z = H_sz_ hi (nI (z + 1)) from if_pos h]
      refine ⟨a, z + 1, ha, ha6, rfl, by omega, by omega, ?_⟩
      rw [hw _ (Nat.mod_lt _ (by omega))]
      unfold upR
      rw [if_pos (by rw [Nat.add_sub_cancel])]
      exact EQ_cp _ _
    · have z6 : z = 6 := by omega
      subst z6
      rw [show svH hi a 6 = H_ol_ hi (nI ((a + 1) % 6)) from if_neg h]
      refine ⟨(a + 1) % 6, 6, rfl, Nat.mod_lt _ (by omega), hz, by omega, by omega, ?_⟩
      rw [hw _ (Nat.mod_lt _ (by omega))]
      unfold upR
      rw [if_pos (by omega)]
      exact EQ_cp _ _
def rw6 (q : TH × TS × TS × TS × TS × TS × TS) : Nat → TS := RW q.2.1 q.2.2.1 q.2.2.2.1 q.2.2.2.2.1 q.2.2.2.2.2.1 q.2.2.2.2.2.2
/-- what a call leaves: an error and all as it was, or a good state and the one before saved -/
def ST (T z : Nat) (now : TS) (h : TH × TS × TS × TS × TS × TS × TS) (r : Int32) (now' : TS) (h' : TH × TS × TS × TS × TS × TS × TS) : Prop := (r.toInt ≤ -50000 ∧ now' = now ∧ h' = h) ∨ (-50000 < r.toInt ∧ GOOD (T + 50) now' ∧ HI T h'.1 (rw6 h') (nx z) ∧ TOP h'.1 (rw6 h') now)
theorem er_1 : (-100001 : Int32).toInt ≤ -50000 := by decide
theorem er_2 : (-100002 : Int32).toInt ≤ -50000 := by decide
theorem er_3 : (-100003 : Int32).toInt ≤ -50000 := by decide
theorem er_4 : ((-100001 : Int32) + (20000 : Int32)).toInt ≤ -50000 := by decide
