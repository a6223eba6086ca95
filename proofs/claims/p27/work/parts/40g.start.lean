theorem gl_X4_init : GoodIn lw_tbl wsX4_init := fun w h => ⟨wsL_law_in w (gL_law_X4_init w h).1, (gL_law_X4_init w h).2⟩
theorem at_i {s : State} {args : Array Value} {ty : FieldType} (h : (Cond.arrayClass ty).before args s = true) (hr : refKind ty = false) (hv : ∀ cA, s.vm.findClass ("[" ++ ty.toString) = some cA → va_RA s cA ty) : ∃ cA : ClassId, ArrOfT s cA ty ∧ va_RA s cA ty := by
  obtain ⟨cA, kA, comp, h1, h2, h3⟩ := Cond.arrayClass_spec h
  exact ⟨cA, fun n z => ⟨fun k h => (by cases h), kA, h2, comp, h3⟩, hv cA h1⟩
theorem at_q {s : State} {args : Array Value} {C : String} (h : (Cond.arrayOver (.object C)).before args s = true) : ∃ cA : ClassId, ArrOfT s cA (.object C) ∧ va_RA s cA (.object C) := by
  obtain ⟨comp, cA, kA, h1, h2, h3, h4, h5⟩ := Cond.arrayOver_spec h
  exact ⟨cA, fun n z => ⟨fun k h => (by cases h), kA, h3, comp, h4⟩, kA, comp, h3, h4, h1, h5⟩
theorem st_FIRST_NUMBERS {s : State} {b : Addr} {A : Nat → Prop} (hts : ∀ w ∈ lw_tbl, w.before #[Value.ref b] s = true) (hgv : (Jvm.Cond.and given_1 narrow_1).before #[Value.ref b] s = true) (hA : ∀ a : Nat, a < s.heap.size → ¬ A a) : STat "FIRST_NUMBERS" tF A s s.heap := by
  have hq := flat_of_before _ hgv
  have hi : (Cond.initialized "BallastTrack").before #[Value.ref b] s = true := (hts (.initialized RX4) (List.mem_of_getElem? (i := 11) (by decide +kernel)))
  have hl : (Cond.laysStatic "BallastTrack" "FIRST_NUMBERS" "[I").before #[Value.ref b] s = true := hts _ (List.mem_of_getElem? (i := 34) (by decide +kernel))
  obtain ⟨t, h1, h2⟩ := va_Tof (tm := .static "BallastTrack" "FIRST_NUMBERS" "[I") (ty := .int) (N := 8) (f := fun j => .int (tF j)) (by decide) (hq (Cond.arrayOf (.static "BallastTrack" "FIRST_NUMBERS" "[I") .int) (by decide +kernel)) (va_eqt (hq (Cond.eq (.length (.static "BallastTrack" "FIRST_NUMBERS" "[I")) (.int 8)) (by decide +kernel))) (fun j hj => by
    rcases (show j = 0 ∨ j = 1 ∨ j = 2 ∨ j = 3 ∨ j = 4 ∨ j = 5 ∨ j = 6 ∨ j = 7 by omega) with rfl | rfl | rfl | rfl | rfl | rfl | rfl | rfl
    · exact va_eqt (hq (Cond.eq (.elem (.static "BallastTrack" "FIRST_NUMBERS" "[I") (.int 0)) (.int (tF 0))) (by decide +kernel))
    · exact va_eqt (hq (Cond.eq (.elem (.static "BallastTrack" "FIRST_NUMBERS" "[I") (.int 1)) (.int (tF 1))) (by decide +kernel))
    · exact va_eqt (hq (Cond.eq (.elem (.static "BallastTrack" "FIRST_NUMBERS" "[I") (.int 2)) (.int (tF 2))) (by decide +kernel))
    · exact va_eqt (hq (Cond.eq (.elem (.static "BallastTrack" "FIRST_NUMBERS" "[I") (.int 3)) (.int (tF 3))) (by decide +kernel))
    · exact va_eqt (hq (Cond.eq (.elem (.static "BallastTrack" "FIRST_NUMBERS" "[I") (.int 4)) (.int (tF 4))) (by decide +kernel))
    · exact va_eqt (hq (Cond.eq (.elem (.static "BallastTrack" "FIRST_NUMBERS" "[I") (.int 5)) (.int (tF 5))) (by decide +kernel))
    · exact va_eqt (hq (Cond.eq (.elem (.static "BallastTrack" "FIRST_NUMBERS" "[I") (.int 6)) (.int (tF 6))) (by decide +kernel))
    · exact va_eqt (hq (Cond.eq (.elem (.static "BallastTrack" "FIRST_NUMBERS" "[I") (.int 7)) (.int (tF 7))) (by decide +kernel))) hA
  exact ⟨t, va_Zref hl hi h1 hA, h2⟩
theorem st_LEAST_NUMBERS {s : State} {b : Addr} {A : Nat → Prop} (hts : ∀ w ∈ lw_tbl, w.before #[Value.ref b] s = true) (hgv : (Jvm.Cond.and given_1 narrow_1).before #[Value.ref b] s = true) (hA : ∀ a : Nat, a < s.heap.size → ¬ A a) : STat "LEAST_NUMBERS" tL A s s.heap := by
  have hq := flat_of_before _ hgv
  have hi : (Cond.initialized "BallastTrack").before #[Value.ref b] s = true := (hts (.initialized RX4) (List.mem_of_getElem? (i := 11) (by decide +kernel)))
  have hl : (Cond.laysStatic "BallastTrack" "LEAST_NUMBERS" "[I").before #[Value.ref b] s = true := hts _ (List.mem_of_getElem? (i := 381) (by decide +kernel))
  obtain ⟨t, h1, h2⟩ := va_Tof (tm := .static "BallastTrack" "LEAST_NUMBERS" "[I") (ty := .int) (N := 8) (f := fun j => .int (tL j)) (by decide) (hq (Cond.arrayOf (.static "BallastTrack" "LEAST_NUMBERS" "[I") .int) (by decide +kernel)) (va_eqt (hq (Cond.eq (.length (.static "BallastTrack" "LEAST_NUMBERS" "[I")) (.int 8)) (by decide +kernel))) (fun j hj => by
    rcases (show j = 0 ∨ j = 1 ∨ j = 2 ∨ j = 3 ∨ j = 4 ∨ j = 5 ∨ j = 6 ∨ j = 7 by omega) with rfl | rfl | rfl | rfl | rfl | rfl | rfl | rfl
    · exact va_eqt (hq (Cond.eq (.elem (.static "BallastTrack" "LEAST_NUMBERS" "[I") (.int 0)) (.int (tL 0))) (by decide +kernel))
    · exact va_eqt (hq (Cond.eq (.elem (.static "BallastTrack" "LEAST_NUMBERS" "[I") (.int 1)) (.int (tL 1))) (by decide +kernel))
    · exact va_eqt (hq (Cond.eq (.elem (.static "BallastTrack" "LEAST_NUMBERS" "[I") (.int 2)) (.int (tL 2))) (by decide +kernel))
    · exact va_eqt (hq (Cond.eq (.elem (.static "BallastTrack" "LEAST_NUMBERS" "[I") (.int 3)) (.int (tL 3))) (by decide +kernel))
    · exact va_eqt (hq (Cond.eq (.elem (.static "BallastTrack" "LEAST_NUMBERS" "[I") (.int 4)) (.int (tL 4))) (by decide +kernel))
    · exact va_eqt (hq (Cond.eq (.elem (.static "BallastTrack" "LEAST_NUMBERS" "[I") (.int 5)) (.int (tL 5))) (by decide +kernel))
    · exact va_eqt (hq (Cond.eq (.elem (.static "BallastTrack" "LEAST_NUMBERS" "[I") (.int 6)) (.int (tL 6))) (by decide +kernel))
    · exact va_eqt (hq (Cond.eq (.elem (.static "BallastTrack" "LEAST_NUMBERS" "[I") (.int 7)) (.int (tL 7))) (by decide +kernel))) hA
  exact ⟨t, va_Zref hl hi h1 hA, h2⟩
theorem st_GREATEST_NUMBERS {s : State} {b : Addr} {A : Nat → Prop} (hts : ∀ w ∈ lw_tbl, w.before #[Value.ref b] s = true) (hgv : (Jvm.Cond.and given_1 narrow_1).before #[Value.ref b] s = true) (hA : ∀ a : Nat, a < s.heap.size → ¬ A a) : STat "GREATEST_NUMBERS" tG A s s.heap := by
  have hq := flat_of_before _ hgv
  have hi : (Cond.initialized "BallastTrack").before #[Value.ref b] s = true := (hts (.initialized RX4) (List.mem_of_getElem? (i := 11) (by decide +kernel)))
  have hl : (Cond.laysStatic "BallastTrack" "GREATEST_NUMBERS" "[I").before #[Value.ref b] s = true := hts _ (List.mem_of_getElem? (i := 387) (by decide +kernel))
  obtain ⟨t, h1, h2⟩ := va_Tof (tm := .static "BallastTrack" "GREATEST_NUMBERS" "[I") (ty := .int) (N := 8) (f := fun j => .int (tG j)) (by decide) (hq (Cond.arrayOf (.static "BallastTrack" "GREATEST_NUMBERS" "[I") .int) (by decide +kernel)) (va_eqt (hq (Cond.eq (.length (.static "BallastTrack" "GREATEST_NUMBERS" "[I")) (.int 8)) (by decide +kernel))) (fun j hj => by
    rcases (show j = 0 ∨ j = 1 ∨ j = 2 ∨ j = 3 ∨ j = 4 ∨ j = 5 ∨ j = 6 ∨ j = 7 by omega) with rfl | rfl | rfl | rfl | rfl | rfl | rfl | rfl
    · exact va_eqt (hq (Cond.eq (.elem (.static "BallastTrack" "GREATEST_NUMBERS" "[I") (.int 0)) (.int (tG 0))) (by decide +kernel))
    · exact va_eqt (hq (Cond.eq (.elem (.static "BallastTrack" "GREATEST_NUMBERS" "[I") (.int 1)) (.int (tG 1))) (by decide +kernel))
    · exact va_eqt (hq (Cond.eq (.elem (.static "BallastTrack" "GREATEST_NUMBERS" "[I") (.int 2)) (.int (tG 2))) (by decide +kernel))
    · exact va_eqt (hq (Cond.eq (.elem (.static "BallastTrack" "GREATEST_NUMBERS" "[I") (.int 3)) (.int (tG 3))) (by decide +kernel))
    · exact va_eqt (hq (Cond.eq (.elem (.static "BallastTrack" "GREATEST_NUMBERS" "[I") (.int 4)) (.int (tG 4))) (by decide +kernel))
    · exact va_eqt (hq (Cond.eq (.elem (.static "BallastTrack" "GREATEST_NUMBERS" "[I") (.int 5)) (.int (tG 5))) (by decide +kernel))
    · exact va_eqt (hq (Cond.eq (.elem (.static "BallastTrack" "GREATEST_NUMBERS" "[I") (.int 6)) (.int (tG 6))) (by decide +kernel))
    · exact va_eqt (hq (Cond.eq (.elem (.static "BallastTrack" "GREATEST_NUMBERS" "[I") (.int 7)) (.int (tG 7))) (by decide +kernel))) hA
  exact ⟨t, va_Zref hl hi h1 hA, h2⟩
set_option maxHeartbeats 8000000 in
set_option maxRecDepth 100000 in
theorem start_open {p : Program} {e : Env} {s : State} {m : MethodId} {below : List Frame} {meth : Method} {c : Code} (l : Launch) {b L : Nat} {xs : Nat → Int32} (hL : L ≤ 260) (C0 : lw_At p s m meth c b L xs) (fu : Nat) (hf : f_L_law fu L xs i_S i_V i_S i_V i_H i_S i_S i_S i_S i_S i_S i_X nil0 i_S i_S = some true) : W p l e room_1 s m #[Value.ref b] below meth c s.heap [] 0 0 (lw_Z below #[Value.ref b] s) (entryFrame m ([Value.ref b] : List Value).toArray 17) := by
  have C1 := C0
  obtain ⟨hx, hb, hr, hml, hown, hts, hX, hbl, hlocks, hgv⟩ := C0
  have hA : ∀ q : Nat, s.heap.size ≤ q → (fun q : Nat => s.heap.size ≤ q) q := fun _ h => h
  have iX0 : ∀ w ∈ u_ws RX0 TX0 3, w ∈ lw_tbl := inX0
  obtain ⟨c0, iS0, hKn0⟩ := u_known (C := RX0) (T := TX0) (N := 3) (n := 3) hts iX0 (hts (.instantiable RX0 3) (List.mem_of_getElem? (i := 119) (by decide +kernel)))
  have iX1 : ∀ w ∈ u_ws RX1 TX1 9, w ∈ lw_tbl := inX1
  obtain ⟨c1, iS1, hKn1⟩ := u_known (C := RX1) (T := TX1) (N := 9) (n := 9) hts iX1 (hts (.instantiable RX1 9) (List.mem_of_getElem? (i := 28) (by decide +kernel)))
  have iX2 : ∀ w ∈ u_ws RX2 TX2 8, w ∈ lw_tbl := inX2
  obtain ⟨c2, iS2, hKn2⟩ := u_known (C := RX2) (T := TX2) (N := 8) (n := 8) hts iX2 (hts (.instantiable RX2 8) (List.mem_of_getElem? (i := 79) (by decide +kernel)))
  have iX3 : ∀ w ∈ u_ws RX3 TX3 4, w ∈ lw_tbl := inX3
  obtain ⟨c3, iS3, hKn3⟩ := u_known (C := RX3) (T := TX3) (N := 4) (n := 4) hts iX3 (hts (.instantiable RX3 4) (List.mem_of_getElem? (i := 139) (by decide +kernel)))
  have iX4 : ∀ w ∈ u_ws RX4 TX4 8, w ∈ lw_tbl := inX4
  obtain ⟨c4, iS4, hKn4⟩ := u_known (C := RX4) (T := TX4) (N := 8) (n := 8) hts iX4 (hts (.instantiable RX4 8) (List.mem_of_getElem? (i := 20) (by decide +kernel)))
  obtain ⟨dC, dI, hKc⟩ : ∃ (dC : Nat → ClassId) (dI : Nat → Nat → Nat), ∀ (k : Nat) (q : vw_C), vwCl[k]? = some q → u_Kn s q.1 q.2.1 q.2.2 (dC k) (dI k) := by
    refine ⟨fun k => [c0, c1, c2, c3, c4].getD k c0, fun k => [iS0, iS1, iS2, iS3, iS4].getD k iS0, ?_⟩
    intro k q hq
    match k, hq with
    | 0, hq => cases hq; exact hKn0
    | 1, hq => cases hq; exact hKn1
    | 2, hq => cases hq; exact hKn2
    | 3, hq => cases hq; exact hKn3
    | 4, hq => cases hq; exact hKn4
    | k + 5, hq => simp [vwCl] at hq
  obtain ⟨a0, ha0, hb0⟩ := at_i (ty := .int) (hts (.arrayClass .int) (List.mem_of_getElem? (i := 77) (by decide +kernel))) rfl (fun _ h => h)
  obtain ⟨a1, ha1, hb1⟩ := at_i (ty := .boolean) (hts (.arrayClass .boolean) (List.mem_of_getElem? (i := 117) (by decide +kernel))) rfl (fun _ h => h)
  have hao : (Cond.arrayOver (.object "BallastTrack$State")).before #[Value.ref b] s = true := hts _ (List.mem_of_getElem? (i := 125) (by decide +kernel))
  obtain ⟨a3, ha3, hb3⟩ := at_q hao
  have hO : va_AO "BallastTrack$State" s := va_AO.of hao
  obtain ⟨cT, hK⟩ : ∃ cT : Nat → ClassId, va_K (dC, dI) vwCl (ty4 cT) s := by
    refine ⟨fun k => [a0, a1, a0, a3].getD k a0, hKc, ?_⟩
    intro k q hq
    match k, hq with
    | 0, hq => cases hq; exact ⟨ha0, hb0⟩
    | 1, hq => cases hq; exact ⟨ha1, hb1⟩
    | 2, hq => cases hq; exact ⟨ha0, hb0⟩
    | 3, hq => cases hq; exact ⟨ha3, hb3⟩
    | k + 4, hq => simp at hq
  have hN : NWs s := ⟨va_Nw.of rfl (hts _ (List.mem_of_getElem? (i := 140) (by decide +kernel))), va_Nw.of rfl (hts _ (List.mem_of_getElem? (i := 256) (by decide +kernel))), va_Nw.of rfl (hts _ (List.mem_of_getElem? (i := 429) (by decide +kernel))), va_Nw.of rfl (hts _ (List.mem_of_getElem? (i := 236) (by decide +kernel))), va_Nw.of rfl (hts _ (List.mem_of_getElem? (i := 33) (by decide +kernel)))⟩
  have hZ : STs (fun q : Nat => s.heap.size ≤ q) s s.heap := ⟨st_FIRST_NUMBERS hts hgv (fun a h => Nat.not_le.mpr h), st_LEAST_NUMBERS hts hgv (fun a h => Nat.not_le.mpr h), st_GREATEST_NUMBERS hts hgv (fun a h => Nat.not_le.mpr h)⟩
  have hS : va_S (fun q : Nat => s.heap.size ≤ q) s.heap s.heap [] := va_S.rf
  have hP : va_P (dC, dI) vwCl [] s.heap := fun k q h => by simp at h
  have hD : va_D (fun q : Nat => s.heap.size ≤ q) [] := ⟨fun i j p q h => by simp at h, fun k q h => by simp at h⟩
  have hl := lv_entry ([.ref b]) (n := 17) (Nat.le_of_ble_eq_true rfl)
  rw [lg_entry_eq]
  generalize (lg_sl ([.ref b]) ++ List.replicate (17 - (lg_sl ([.ref b])).length) Slot.unset).toArray = ls at hl ⊢
  have hl : lv_has ls 17 [(0, .ref b)] := hl
  refine va_new (ci := 4) (fs := [.null, .null, .null, .null, .null, .null, .null, .null]) (C := RX4) (T := TX4) (N := 8) hx hb hts iX4 tyX4 tyX4_ok hown (hts (.classLink RL 13 RX4) (List.mem_of_getElem? (i := 19) (by decide +kernel))) (hts (.instantiable RX4 8) (List.mem_of_getElem? (i := 20) (by decide +kernel))) (hts (.initialized RX4) (List.mem_of_getElem? (i := 11) (by decide +kernel))) hK hP hD hS hA rfl (fun j hj => by rcases (show j = 0 ∨ j = 1 ∨ j = 2 ∨ j = 3 ∨ j = 4 ∨ j = 5 ∨ j = 6 ∨ j = 7 by omega) with rfl | rfl | rfl | rfl | rfl | rfl | rfl | rfl <;> rfl) (Nat.le_of_ble_eq_true rfl) (Nat.le_of_ble_eq_true rfl) dL_law_0 (fun q0 H hP hD hS => ?_)
  replace hP : va_P (dC, dI) vwCl (([] : va_W) ++ [(q0, .inr (4, [.null, .null, .null, .null, .null, .null, .null, .null]))]) H := hP
  replace hD : va_D (fun q : Nat => s.heap.size ≤ q) (([] : va_W) ++ [(q0, .inr (4, [.null, .null, .null, .null, .null, .null, .null, .null]))]) := hD
  refine W.widen (k := 1) (n := 8) (Nat.le_of_ble_eq_true rfl) (Nat.le_of_ble_eq_true rfl) ?_
  refine lv_dup hx hb dL_law_3 rfl ?_
  refine cl_c hP hD hA hS (va_runI (As := []) (rest := [.ref q0]) ⟨hx, hb, hml, hown, hts⟩ (c_X4_init l (dC, dI) cT q0 _) (cwI 0 hts gl_X4_init rfl rfl rfl (hts (.initialized RX4) (List.mem_of_getElem? (i := 11) (by decide +kernel))) (hts (.methodLink RL 71 yX4_init) (List.mem_of_getElem? (i := 21) (by decide +kernel))) (hts (.instanceMethod yX4_init) (List.mem_of_getElem? (i := 22) (by decide +kernel))) rfl (by decide +kernel) ⟨Nat.le_of_ble_eq_true rfl, Nat.le_of_ble_eq_true rfl⟩) ⟨PREA_blind, PREA_new hO hP hD hA hS hK hN hZ⟩ rfl rfl hl.1 rfl (lv_room (Nat.le_of_ble_eq_true rfl)) dL_law_4 ⟨Nat.le_of_ble_eq_true rfl, Nat.le_of_ble_eq_true rfl⟩) (fun g H locs hgg hP hD hS => ?_)
  rw [← hgg]
  refine W.widen (k := 95) (n := 3381) (Nat.le_of_ble_eq_true rfl) (Nat.le_of_ble_eq_true rfl) ?_
  refine lv_astore_n (lv' := [(1, .ref (g 0)), (0, .ref b)]) hx hb dL_law_7 rfl hl (by decide) rfl (fun ls hl => ?_)
  replace hP : va_P (dC, dI) vwCl (List.flatten [wT g, wS cT g 1 i_S, wV cT g 9 1 i_V, wS cT g 13 i_S, wV cT g 21 13 i_V, wH cT g 25 i_H, wS cT g 27 i_S, wS cT g 35 i_S, wS cT g 43 i_S, wS cT g 51 i_S, wS cT g 59 i_S, wS cT g 67 i_S, wX cT g 75 i_X, wI cT g 77, wK cT g 94 nil0, wS cT g 78 i_S, wS cT g 86 i_S]) H := hP
  replace hD : va_D (fun q : Nat => s.heap.size ≤ q) (List.flatten [wT g, wS cT g 1 i_S, wV cT g 9 1 i_V, wS cT g 13 i_S, wV cT g 21 13 i_V, wH cT g 25 i_H, wS cT g 27 i_S, wS cT g 35 i_S, wS cT g 43 i_S, wS cT g 51 i_S, wS cT g 59 i_S, wS cT g 67 i_S, wX cT g 75 i_X, wI cT g 77, wK cT g 94 nil0, wS cT g 78 i_S, wS cT g 86 i_S]) := hD
  refine W.widen (k := 600000) (n := 7302250) (Nat.le_of_ble_eq_true rfl) (Nat.le_of_ble_eq_true rfl) ?_
  exact law_walk C1 hK hN hZ hA (fun _ h => h) fu i_S i_V i_S i_V i_H i_S i_S i_S i_S i_S i_S i_X nil0 i_S i_S hf H locs ls (fun _ _ _ _ _ _ _ _ _ _ _ _ _ _ _ => va_D_adr hD rfl) hP hS (lv_sub hl [1, 0] rfl)
