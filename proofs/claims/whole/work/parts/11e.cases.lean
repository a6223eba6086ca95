set_option maxHeartbeats 4000000 in
set_option maxRecDepth 100000 in
theorem lc_cancelJobs {p : Program} {l : Launch} {e : Env} {s : State} {m : MethodId} {below : List Frame} {meth : Method} {c : Code} {D : va_G} {cT : Nat → ClassId} {b L : Nat} {xs : Nat → Int32} {g gm : Nat → Nat} {RR : TC → TM → Prop} {fu : Nat} {B0 : List va_W} (C0 : lw_At p s m meth c b L xs) (hK : va_K D vwCl (ty4 cT) s) (hN : NWs s) (hZ : STs (fun q : Nat => s.heap.size ≤ q) s s.heap) (hD : va_D (fun q : Nat => s.heap.size ≤ q) B0.flatten) (hadr : ∀ (C : TC) (u : TM), adr (LB cT g gm C u).flatten = adr B0.flatten) (hop : OP_cancelJobs RR fu) {i : Int32} (h1 : vp_in (i + 1) L) (h2 : vp_in (i + 2) L) (h3 : vp_in (i + 3) L) (kk : ∀ (C : TC) (u : TM) (H : Heap) (locs : List Loc) (ls : Array Slot), RR C u → va_P D vwCl (LB cT g gm C u).flatten H → va_S (fun q : Nat => s.heap.size ≤ q) s.heap H locs → lv_has ls 4 [(0, .ref b), (1, .ref (g 0)), (2, .ref (gm 0)), (3, .int i)] → W p l e room_1 s m #[Value.ref b] below meth c H locs 600000 7302250 (lw_Z below #[Value.ref b] s) (F0 m 806 ls [])) {C : TC} {u : TM} {H : Heap} {locs : List Loc} {ls : Array Slot} (hR : RR C u) (hP : va_P D vwCl (LB cT g gm C u).flatten H) (hS : va_S (fun q : Nat => s.heap.size ≤ q) s.heap H locs) (hl : lv_has ls 4 [(0, .ref b), (1, .ref (g 0)), (2, .ref (gm 0)), (3, .int i)]) : W p l e room_1 s m #[Value.ref b] below meth c H locs 600000 7302250 (lw_Z below #[Value.ref b] s) (F0 m 358 ls []) := by
  obtain ⟨hx, hb, hr, hml, hown, hts, hX, hbl, hlocks, hgv⟩ := C0
  have hA : ∀ q : Nat, s.heap.size ≤ q → (fun q : Nat => s.heap.size ≤ q) q := fun _ h => h
  have hbA : ¬ (fun q : Nat => s.heap.size ≤ q) b := Nat.not_le.mpr hbl
  obtain ⟨o, o', ho, ho', he, hR'⟩ := hop C u (xs (i + 1).toNatClampNeg) hR
  refine lv_aload_n hx hb dL_law_358 rfl (lv_at hl 1 rfl) ?_
  refine lv_aload_n hx hb dL_law_359 rfl (lv_at hl 0 rfl) ?_
  refine lv_iload_n hx hb dL_law_360 rfl (lv_at hl 3 rfl) ?_
  refine lv_iconst (v := 1) hx hb dL_law_361 (by decide) ?_
  refine lv_iadd hx hb dL_law_362 ?_
  refine va_sld hx hb hX hbl hbA hS h1 dL_law_363 ?_
  refine cl_iL [0, 1, 5, 6, 7, 8, 9, 10, 11] [2, 3, 4, 12, 13, 14, 15, 16, 17] [wT g, wS cT g 1 o.2.1, wV cT g 9 1 (C_sv C), wS cT g 13 (C_tr C), wV cT g 21 13 (C_ts C), wH cT g 25 o.2.2.1, wS cT g 27 o.2.2.2.1, wS cT g 35 o.2.2.2.2.1, wS cT g 43 o.2.2.2.2.2.1, wS cT g 51 o.2.2.2.2.2.2.1, wS cT g 59 o.2.2.2.2.2.2.2.1, wS cT g 67 o.2.2.2.2.2.2.2.2, wX cT g 75 (C_tx C), wI cT g 77, wK cT g 94 (C_kp C), wS cT g 78 (C_i0 C), wS cT g 86 (C_i1 C), wM cT gm 0 u] hP (va_D_adr hD (hadr _ _)) hA hS (va_runV (As := [.int (xs (i + 1).toNatClampNeg)]) (rest := []) ⟨hx, hb, hml, hown, hts⟩ (c_X4_cancelJobs l D cT g fu (C_now C) (C_hi C) (C_r0 C) (C_r1 C) (C_r2 C) (C_r3 C) (C_r4 C) (C_r5 C) (xs (i + 1).toNatClampNeg) o ho _) (cwV 1 hts (goodIn_app (goodIn_r _ [343, 344, 345, 44] (by decide +kernel) (by decide +kernel)) gl_X4_cancelJobs) rfl rfl rfl (by decide +kernel) ⟨Nat.le_of_ble_eq_true rfl, Nat.le_of_ble_eq_true rfl⟩) ⟨PRE_blind, va_recv hK hP (ci := 4) (q0 := 0) rfl rfl, PRE_ok [0, 1, 5, 6, 7, 8, 9, 10, 11] (by decide) hP (va_D_adr hD (hadr _ _)) hA hS hK hN hZ⟩ rfl rfl hl.1 rfl (lv_room (Nat.le_of_ble_eq_true rfl)) dL_law_364 ⟨Nat.le_of_ble_eq_true rfl, Nat.le_of_ble_eq_true rfl⟩) rfl 18 rfl (by decide) (by decide) (fun H locs hP hS => ?_)
  replace hP : va_P D vwCl (LB cT g gm (C_r5_ (C_r4_ (C_r3_ (C_r2_ (C_r1_ (C_r0_ (C_hi_ (C_now_ C o.2.1) o.2.2.1) o.2.2.2.1) o.2.2.2.2.1) o.2.2.2.2.2.1) o.2.2.2.2.2.2.1) o.2.2.2.2.2.2.2.1) o.2.2.2.2.2.2.2.2) u).flatten H := hP
  refine lv_aload_n hx hb dL_law_367 rfl (lv_at hl 2 rfl) ?_
  refine lv_aload_n hx hb dL_law_368 rfl (lv_at hl 0 rfl) ?_
  refine lv_iload_n hx hb dL_law_369 rfl (lv_at hl 3 rfl) ?_
  refine lv_iconst (v := 1) hx hb dL_law_370 (by decide) ?_
  refine lv_iadd hx hb dL_law_371 ?_
  refine va_sld hx hb hX hbl hbA hS h1 dL_law_372 ?_
  refine cl_iL [17] [0, 1, 2, 3, 4, 5, 6, 7, 8, 9, 10, 11, 12, 13, 14, 15, 16] [wT g, wS cT g 1 o.2.1, wV cT g 9 1 (C_sv C), wS cT g 13 (C_tr C), wV cT g 21 13 (C_ts C), wH cT g 25 o.2.2.1, wS cT g 27 o.2.2.2.1, wS cT g 35 o.2.2.2.2.1, wS cT g 43 o.2.2.2.2.2.1, wS cT g 51 o.2.2.2.2.2.2.1, wS cT g 59 o.2.2.2.2.2.2.2.1, wS cT g 67 o.2.2.2.2.2.2.2.2, wX cT g 75 (C_tx C), wI cT g 77, wK cT g 94 (C_kp C), wS cT g 78 (C_i0 C), wS cT g 86 (C_i1 C), wM cT gm 0 o'.2] hP (va_D_adr hD (hadr _ _)) hA hS (va_runV (As := [.int (xs (i + 1).toNatClampNeg)]) (rest := [.int o.1]) ⟨hx, hb, hml, hown, hts⟩ (c_X5_cancelJobs l D cT gm 0 fu u (xs (i + 1).toNatClampNeg) o' ho' _) (cwV 1 hts (goodIn_app (goodIn_r _ [667, 668, 669, 50] (by decide +kernel) (by decide +kernel)) gl_X5_cancelJobs) rfl rfl rfl (by decide +kernel) ⟨Nat.le_of_ble_eq_true rfl, Nat.le_of_ble_eq_true rfl⟩) ⟨PRE_blind, va_recv hK hP (ci := 5) (q0 := 95) rfl rfl, PRE_ok [17] (by decide) hP (va_D_adr hD (hadr _ _)) hA hS hK hN hZ⟩ rfl rfl hl.1 rfl (lv_room (Nat.le_of_ble_eq_true rfl)) dL_law_373 ⟨Nat.le_of_ble_eq_true rfl, Nat.le_of_ble_eq_true rfl⟩) rfl 18 rfl (by decide) (by decide) (fun H locs hP hS => ?_)
  replace hP : va_P D vwCl (LB cT g gm (C_r5_ (C_r4_ (C_r3_ (C_r2_ (C_r1_ (C_r0_ (C_hi_ (C_now_ C o.2.1) o.2.2.1) o.2.2.2.1) o.2.2.2.2.1) o.2.2.2.2.2.1) o.2.2.2.2.2.2.1) o.2.2.2.2.2.2.2.1) o.2.2.2.2.2.2.2.2) o'.2).flatten H := hP
  refine lv_icmp_eq (tgt := 806) hx hb dL_law_376 (by decide) (fun _ => ?_) (fun h9 => absurd he h9)
  exact kk _ _ _ _ _ hR' hP hS hl
set_option maxHeartbeats 4000000 in
set_option maxRecDepth 100000 in
theorem lc_work {p : Program} {l : Launch} {e : Env} {s : State} {m : MethodId} {below : List Frame} {meth : Method} {c : Code} {D : va_G} {cT : Nat → ClassId} {b L : Nat} {xs : Nat → Int32} {g gm : Nat → Nat} {RR : TC → TM → Prop} {fu : Nat} {B0 : List va_W} (C0 : lw_At p s m meth c b L xs) (hK : va_K D vwCl (ty4 cT) s) (hN : NWs s) (hZ : STs (fun q : Nat => s.heap.size ≤ q) s s.heap) (hD : va_D (fun q : Nat => s.heap.size ≤ q) B0.flatten) (hadr : ∀ (C : TC) (u : TM), adr (LB cT g gm C u).flatten = adr B0.flatten) (hop : OP_work RR fu) {i : Int32} (h1 : vp_in (i + 1) L) (h2 : vp_in (i + 2) L) (h3 : vp_in (i + 3) L) (kk : ∀ (C : TC) (u : TM) (H : Heap) (locs : List Loc) (ls : Array Slot), RR C u → va_P D vwCl (LB cT g gm C u).flatten H → va_S (fun q : Nat => s.heap.size ≤ q) s.heap H locs → lv_has ls 4 [(0, .ref b), (1, .ref (g 0)), (2, .ref (gm 0)), (3, .int i)] → W p l e room_1 s m #[Value.ref b] below meth c H locs 600000 7302250 (lw_Z below #[Value.ref b] s) (F0 m 806 ls [])) {C : TC} {u : TM} {H : Heap} {locs : List Loc} {ls : Array Slot} (hR : RR C u) (hP : va_P D vwCl (LB cT g gm C u).flatten H) (hS : va_S (fun q : Nat => s.heap.size ≤ q) s.heap H locs) (hl : lv_has ls 4 [(0, .ref b), (1, .ref (g 0)), (2, .ref (gm 0)), (3, .int i)]) : W p l e room_1 s m #[Value.ref b] below meth c H locs 600000 7302250 (lw_Z below #[Value.ref b] s) (F0 m 381 ls []) := by
  obtain ⟨hx, hb, hr, hml, hown, hts, hX, hbl, hlocks, hgv⟩ := C0
  have hA : ∀ q : Nat, s.heap.size ≤ q → (fun q : Nat => s.heap.size ≤ q) q := fun _ h => h
  have hbA : ¬ (fun q : Nat => s.heap.size ≤ q) b := Nat.not_le.mpr hbl
  obtain ⟨o, o', ho, ho', he, hR'⟩ := hop C u (xs (i + 1).toNatClampNeg) hR
  refine lv_aload_n hx hb dL_law_381 rfl (lv_at hl 1 rfl) ?_
  refine lv_aload_n hx hb dL_law_382 rfl (lv_at hl 0 rfl) ?_
  refine lv_iload_n hx hb dL_law_383 rfl (lv_at hl 3 rfl) ?_
  refine lv_iconst (v := 1) hx hb dL_law_384 (by decide) ?_
  refine lv_iadd hx hb dL_law_385 ?_
  refine va_sld hx hb hX hbl hbA hS h1 dL_law_386 ?_
  refine cl_iL [0, 1, 5, 6, 7, 8, 9, 10, 11] [2, 3, 4, 12, 13, 14, 15, 16, 17] [wT g, wS cT g 1 o.2.1, wV cT g 9 1 (C_sv C), wS cT g 13 (C_tr C), wV cT g 21 13 (C_ts C), wH cT g 25 o.2.2.1, wS cT g 27 o.2.2.2.1, wS cT g 35 o.2.2.2.2.1, wS cT g 43 o.2.2.2.2.2.1, wS cT g 51 o.2.2.2.2.2.2.1, wS cT g 59 o.2.2.2.2.2.2.2.1, wS cT g 67 o.2.2.2.2.2.2.2.2, wX cT g 75 (C_tx C), wI cT g 77, wK cT g 94 (C_kp C), wS cT g 78 (C_i0 C), wS cT g 86 (C_i1 C), wM cT gm 0 u] hP (va_D_adr hD (hadr _ _)) hA hS (va_runV (As := [.int (xs (i + 1).toNatClampNeg)]) (rest := []) ⟨hx, hb, hml, hown, hts⟩ (c_X4_work l D cT g fu (C_now C) (C_hi C) (C_r0 C) (C_r1 C) (C_r2 C) (C_r3 C) (C_r4 C) (C_r5 C) (xs (i + 1).toNatClampNeg) o ho _) (cwV 1 hts (goodIn_app (goodIn_r _ [355, 356, 357, 44] (by decide +kernel) (by decide +kernel)) gl_X4_work) rfl rfl rfl (by decide +kernel) ⟨Nat.le_of_ble_eq_true rfl, Nat.le_of_ble_eq_true rfl⟩) ⟨PRE_blind, va_recv hK hP (ci := 4) (q0 := 0) rfl rfl, PRE_ok [0, 1, 5, 6, 7, 8, 9, 10, 11] (by decide) hP (va_D_adr hD (hadr _ _)) hA hS hK hN hZ⟩ rfl rfl hl.1 rfl (lv_room (Nat.le_of_ble_eq_true rfl)) dL_law_387 ⟨Nat.le_of_ble_eq_true rfl, Nat.le_of_ble_eq_true rfl⟩) rfl 18 rfl (by decide) (by decide) (fun H locs hP hS => ?_)
  replace hP : va_P D vwCl (LB cT g gm (C_r5_ (C_r4_ (C_r3_ (C_r2_ (C_r1_ (C_r0_ (C_hi_ (C_now_ C o.2.1) o.2.2.1) o.2.2.2.1) o.2.2.2.2.1) o.2.2.2.2.2.1) o.2.2.2.2.2.2.1) o.2.2.2.2.2.2.2.1) o.2.2.2.2.2.2.2.2) u).flatten H := hP
  refine lv_aload_n hx hb dL_law_390 rfl (lv_at hl 2 rfl) ?_
  refine lv_aload_n hx hb dL_law_391 rfl (lv_at hl 0 rfl) ?_
  refine lv_iload_n hx hb dL_law_392 rfl (lv_at hl 3 rfl) ?_
  refine lv_iconst (v := 1) hx hb dL_law_393 (by decide) ?_
  refine lv_iadd hx hb dL_law_394 ?_
  refine va_sld hx hb hX hbl hbA hS h1 dL_law_395 ?_
  refine cl_iL [17] [0, 1, 2, 3, 4, 5, 6, 7, 8, 9, 10, 11, 12, 13, 14, 15, 16] [wT g, wS cT g 1 o.2.1, wV cT g 9 1 (C_sv C), wS cT g 13 (C_tr C), wV cT g 21 13 (C_ts C), wH cT g 25 o.2.2.1, wS cT g 27 o.2.2.2.1, wS cT g 35 o.2.2.2.2.1, wS cT g 43 o.2.2.2.2.2.1, wS cT g 51 o.2.2.2.2.2.2.1, wS cT g 59 o.2.2.2.2.2.2.2.1, wS cT g 67 o.2.2.2.2.2.2.2.2, wX cT g 75 (C_tx C), wI cT g 77, wK cT g 94 (C_kp C), wS cT g 78 (C_i0 C), wS cT g 86 (C_i1 C), wM cT gm 0 o'.2] hP (va_D_adr hD (hadr _ _)) hA hS (va_runV (As := [.int (xs (i + 1).toNatClampNeg)]) (rest := [.int o.1]) ⟨hx, hb, hml, hown, hts⟩ (c_X5_work l D cT gm 0 fu u (xs (i + 1).toNatClampNeg) o' ho' _) (cwV 1 hts (goodIn_app (goodIn_r _ [679, 680, 681, 50] (by decide +kernel) (by decide +kernel)) gl_X5_work) rfl rfl rfl (by decide +kernel) ⟨Nat.le_of_ble_eq_true rfl, Nat.le_of_ble_eq_true rfl⟩) ⟨PRE_blind, va_recv hK hP (ci := 5) (q0 := 95) rfl rfl, PRE_ok [17] (by decide) hP (va_D_adr hD (hadr _ _)) hA hS hK hN hZ⟩ rfl rfl hl.1 rfl (lv_room (Nat.le_of_ble_eq_true rfl)) dL_law_396 ⟨Nat.le_of_ble_eq_true rfl, Nat.le_of_ble_eq_true rfl⟩) rfl 18 rfl (by decide) (by decide) (fun H locs hP hS => ?_)
  replace hP : va_P D vwCl (LB cT g gm (C_r5_ (C_r4_ (C_r3_ (C_r2_ (C_r1_ (C_r0_ (C_hi_ (C_now_ C o.2.1) o.2.2.1) o.2.2.2.1) o.2.2.2.2.1) o.2.2.2.2.2.1) o.2.2.2.2.2.2.1) o.2.2.2.2.2.2.2.1) o.2.2.2.2.2.2.2.2) o'.2).flatten H := hP
  refine lv_icmp_eq (tgt := 806) hx hb dL_law_399 (by decide) (fun _ => ?_) (fun h9 => absurd he h9)
  exact kk _ _ _ _ _ hR' hP hS hl
set_option maxHeartbeats 4000000 in
set_option maxRecDepth 100000 in
theorem lc_trains {p : Program} {l : Launch} {e : Env} {s : State} {m : MethodId} {below : List Frame} {meth : Method} {c : Code} {D : va_G} {cT : Nat → ClassId} {b L : Nat} {xs : Nat → Int32} {g gm : Nat → Nat} {RR : TC → TM → Prop} {fu : Nat} {B0 : List va_W} (C0 : lw_At p s m meth c b L xs) (hK : va_K D vwCl (ty4 cT) s) (hN : NWs s) (hZ : STs (fun q : Nat => s.heap.size ≤ q) s s.heap) (hD : va_D (fun q : Nat => s.heap.size ≤ q) B0.flatten) (hadr : ∀ (C : TC) (u : TM), adr (LB cT g gm C u).flatten = adr B0.flatten) (hop : OP_trains RR fu) {i : Int32} (h1 : vp_in (i + 1) L) (h2 : vp_in (i + 2) L) (h3 : vp_in (i + 3) L) (kk : ∀ (C : TC) (u : TM) (H : Heap) (locs : List Loc) (ls : Array Slot), RR C u → va_P D vwCl (LB cT g gm C u).flatten H → va_S (fun q : Nat => s.heap.size ≤ q) s.heap H locs → lv_has ls 4 [(0, .ref b), (1, .ref (g 0)), (2, .ref (gm 0)), (3, .int i)] → W p l e room_1 s m #[Value.ref b] below meth c H locs 600000 7302250 (lw_Z below #[Value.ref b] s) (F0 m 806 ls [])) {C : TC} {u : TM} {H : Heap} {locs : List Loc} {ls : Array Slot} (hR : RR C u) (hP : va_P D vwCl (LB cT g gm C u).flatten H) (hS : va_S (fun q : Nat => s.heap.size ≤ q) s.heap H locs) (hl : lv_has ls 4 [(0, .ref b), (1, .ref (g 0)), (2, .ref (gm 0)), (3, .int i)]) : W p l e room_1 s m #[Value.ref b] below meth c H locs 600000 7302250 (lw_Z below #[Value.ref b] s) (F0 m 404 ls []) := by
  obtain ⟨hx, hb, hr, hml, hown, hts, hX, hbl, hlocks, hgv⟩ := C0
  have hA : ∀ q : Nat, s.heap.size ≤ q → (fun q : Nat => s.heap.size ≤ q) q := fun _ h => h
  have hbA : ¬ (fun q : Nat => s.heap.size ≤ q) b := Nat.not_le.mpr hbl
  obtain ⟨o, o', ho, ho', he, hR'⟩ := hop C u (xs (i + 1).toNatClampNeg) (xs (i + 2).toNatClampNeg) (xs (i + 3).toNatClampNeg) hR
  refine lv_aload_n hx hb dL_law_404 rfl (lv_at hl 1 rfl) ?_
  refine lv_aload_n hx hb dL_law_405 rfl (lv_at hl 0 rfl) ?_
  refine lv_iload_n hx hb dL_law_406 rfl (lv_at hl 3 rfl) ?_
  refine lv_iconst (v := 1) hx hb dL_law_407 (by decide) ?_
  refine lv_iadd hx hb dL_law_408 ?_
  refine va_sld hx hb hX hbl hbA hS h1 dL_law_409 ?_
  refine lv_aload_n hx hb dL_law_410 rfl (lv_at hl 0 rfl) ?_
  refine lv_iload_n hx hb dL_law_411 rfl (lv_at hl 3 rfl) ?_
  refine lv_iconst (v := 2) hx hb dL_law_412 (by decide) ?_
  refine lv_iadd hx hb dL_law_413 ?_
  refine va_sld hx hb hX hbl hbA hS h2 dL_law_414 ?_
  refine lv_aload_n hx hb dL_law_415 rfl (lv_at hl 0 rfl) ?_
  refine lv_iload_n hx hb dL_law_416 rfl (lv_at hl 3 rfl) ?_
  refine lv_iconst (v := 3) hx hb dL_law_417 (by decide) ?_
  refine lv_iadd hx hb dL_law_418 ?_
  refine va_sld hx hb hX hbl hbA hS h3 dL_law_419 ?_
  refine cl_iL [0, 1, 2, 5, 6, 7, 8, 9, 10, 11] [3, 4, 12, 13, 14, 15, 16, 17] [wT g, wS cT g 1 o.2.1, wV cT g 9 1 o.2.2.1, wS cT g 13 (C_tr C), wV cT g 21 13 (C_ts C), wH cT g 25 o.2.2.2.1, wS cT g 27 o.2.2.2.2.1, wS cT g 35 o.2.2.2.2.2.1, wS cT g 43 o.2.2.2.2.2.2.1, wS cT g 51 o.2.2.2.2.2.2.2.1, wS cT g 59 o.2.2.2.2.2.2.2.2.1, wS cT g 67 o.2.2.2.2.2.2.2.2.2, wX cT g 75 (C_tx C), wI cT g 77, wK cT g 94 (C_kp C), wS cT g 78 (C_i0 C), wS cT g 86 (C_i1 C), wM cT gm 0 u] hP (va_D_adr hD (hadr _ _)) hA hS (va_runV (As := [.int (xs (i + 1).toNatClampNeg), .int (xs (i + 2).toNatClampNeg), .int (xs (i + 3).toNatClampNeg)]) (rest := []) ⟨hx, hb, hml, hown, hts⟩ (c_X4_trains l D cT g fu (C_now C) (C_sv C) (C_hi C) (C_r0 C) (C_r1 C) (C_r2 C) (C_r3 C) (C_r4 C) (C_r5 C) (xs (i + 1).toNatClampNeg) (xs (i + 2).toNatClampNeg) (xs (i + 3).toNatClampNeg) o ho _) (cwV 3 hts (goodIn_app (goodIn_r _ [388, 389, 390, 44] (by decide +kernel) (by decide +kernel)) gl_X4_trains) rfl rfl rfl (by decide +kernel) ⟨Nat.le_of_ble_eq_true rfl, Nat.le_of_ble_eq_true rfl⟩) ⟨PRE_blind, va_recv hK hP (ci := 4) (q0 := 0) rfl rfl, PRE_ok [0, 1, 2, 5, 6, 7, 8, 9, 10, 11] (by decide) hP (va_D_adr hD (hadr _ _)) hA hS hK hN hZ⟩ rfl rfl hl.1 rfl (lv_room (Nat.le_of_ble_eq_true rfl)) dL_law_420 ⟨Nat.le_of_ble_eq_true rfl, Nat.le_of_ble_eq_true rfl⟩) rfl 18 rfl (by decide) (by decide) (fun H locs hP hS => ?_)
  replace hP : va_P D vwCl (LB cT g gm (C_r5_ (C_r4_ (C_r3_ (C_r2_ (C_r1_ (C_r0_ (C_hi_ (C_sv_ (C_now_ C o.2.1) o.2.2.1) o.2.2.2.1) o.2.2.2.2.1) o.2.2.2.2.2.1) o.2.2.2.2.2.2.1) o.2.2.2.2.2.2.2.1) o.2.2.2.2.2.2.2.2.1) o.2.2.2.2.2.2.2.2.2) u).flatten H := hP
  refine lv_aload_n hx hb dL_law_423 rfl (lv_at hl 2 rfl) ?_
  refine lv_aload_n hx hb dL_law_424 rfl (lv_at hl 0 rfl) ?_
  refine lv_iload_n hx hb dL_law_425 rfl (lv_at hl 3 rfl) ?_
  refine lv_iconst (v := 1) hx hb dL_law_426 (by decide) ?_
  refine lv_iadd hx hb dL_law_427 ?_
  refine va_sld hx hb hX hbl hbA hS h1 dL_law_428 ?_
  refine lv_aload_n hx hb dL_law_429 rfl (lv_at hl 0 rfl) ?_
  refine lv_iload_n hx hb dL_law_430 rfl (lv_at hl 3 rfl) ?_
  refine lv_iconst (v := 2) hx hb dL_law_431 (by decide) ?_
  refine lv_iadd hx hb dL_law_432 ?_
  refine va_sld hx hb hX hbl hbA hS h2 dL_law_433 ?_
  refine lv_aload_n hx hb dL_law_434 rfl (lv_at hl 0 rfl) ?_
  refine lv_iload_n hx hb dL_law_435 rfl (lv_at hl 3 rfl) ?_
  refine lv_iconst (v := 3) hx hb dL_law_436 (by decide) ?_
  refine lv_iadd hx hb dL_law_437 ?_
  refine va_sld hx hb hX hbl hbA hS h3 dL_law_438 ?_
  refine cl_iL [17] [0, 1, 2, 3, 4, 5, 6, 7, 8, 9, 10, 11, 12, 13, 14, 15, 16] [wT g, wS cT g 1 o.2.1, wV cT g 9 1 o.2.2.1, wS cT g 13 (C_tr C), wV cT g 21 13 (C_ts C), wH cT g 25 o.2.2.2.1, wS cT g 27 o.2.2.2.2.1, wS cT g 35 o.2.2.2.2.2.1, wS cT g 43 o.2.2.2.2.2.2.1, wS cT g 51 o.2.2.2.2.2.2.2.1, wS cT g 59 o.2.2.2.2.2.2.2.2.1, wS cT g 67 o.2.2.2.2.2.2.2.2.2, wX cT g 75 (C_tx C), wI cT g 77, wK cT g 94 (C_kp C), wS cT g 78 (C_i0 C), wS cT g 86 (C_i1 C), wM cT gm 0 o'.2] hP (va_D_adr hD (hadr _ _)) hA hS (va_runV (As := [.int (xs (i + 1).toNatClampNeg), .int (xs (i + 2).toNatClampNeg), .int (xs (i + 3).toNatClampNeg)]) (rest := [.int o.1]) ⟨hx, hb, hml, hown, hts⟩ (c_X5_trains l D cT gm 0 fu u (xs (i + 1).toNatClampNeg) (xs (i + 2).toNatClampNeg) (xs (i + 3).toNatClampNeg) o' ho' _) (cwV 3 hts (goodIn_app (goodIn_r _ [701, 702, 703, 50] (by decide +kernel) (by decide +kernel)) gl_X5_trains) rfl rfl rfl (by decide +kernel) ⟨Nat.le_of_ble_eq_true rfl, Nat.le_of_ble_eq_true rfl⟩) ⟨PRE_blind, va_recv hK hP (ci := 5) (q0 := 95) rfl rfl, PRE_ok [17] (by decide) hP (va_D_adr hD (hadr _ _)) hA hS hK hN hZ⟩ rfl rfl hl.1 rfl (lv_room (Nat.le_of_ble_eq_true rfl)) dL_law_439 ⟨Nat.le_of_ble_eq_true rfl, Nat.le_of_ble_eq_true rfl⟩) rfl 18 rfl (by decide) (by decide) (fun H locs hP hS => ?_)
  replace hP : va_P D vwCl (LB cT g gm (C_r5_ (C_r4_ (C_r3_ (C_r2_ (C_r1_ (C_r0_ (C_hi_ (C_sv_ (C_now_ C o.2.1) o.2.2.1) o.2.2.2.1) o.2.2.2.2.1) o.2.2.2.2.2.1) o.2.2.2.2.2.2.1) o.2.2.2.2.2.2.2.1) o.2.2.2.2.2.2.2.2.1) o.2.2.2.2.2.2.2.2.2) o'.2).flatten H := hP
  refine lv_icmp_eq (tgt := 806) hx hb dL_law_442 (by decide) (fun _ => ?_) (fun h9 => absurd he h9)
  exact kk _ _ _ _ _ hR' hP hS hl
set_option maxHeartbeats 4000000 in
set_option maxRecDepth 100000 in
theorem lc_keep {p : Program} {l : Launch} {e : Env} {s : State} {m : MethodId} {below : List Frame} {meth : Method} {c : Code} {D : va_G} {cT : Nat → ClassId} {b L : Nat} {xs : Nat → Int32} {g gm : Nat → Nat} {RR : TC → TM → Prop} {fu : Nat} {B0 : List va_W} (C0 : lw_At p s m meth c b L xs) (hK : va_K D vwCl (ty4 cT) s) (hN : NWs s) (hZ : STs (fun q : Nat => s.heap.size ≤ q) s s.heap) (hD : va_D (fun q : Nat => s.heap.size ≤ q) B0.flatten) (hadr : ∀ (C : TC) (u : TM), adr (LB cT g gm C u).flatten = adr B0.flatten) (hop : OP_keep RR fu) {i : Int32} (h1 : vp_in (i + 1) L) (h2 : vp_in (i + 2) L) (h3 : vp_in (i + 3) L) (kk : ∀ (C : TC) (u : TM) (H : Heap) (locs : List Loc) (ls : Array Slot), RR C u → va_P D vwCl (LB cT g gm C u).flatten H → va_S (fun q : Nat => s.heap.size ≤ q) s.heap H locs → lv_has ls 4 [(0, .ref b), (1, .ref (g 0)), (2, .ref (gm 0)), (3, .int i)] → W p l e room_1 s m #[Value.ref b] below meth c H locs 600000 7302250 (lw_Z below #[Value.ref b] s) (F0 m 806 ls [])) {C : TC} {u : TM} {H : Heap} {locs : List Loc} {ls : Array Slot} (hR : RR C u) (hP : va_P D vwCl (LB cT g gm C u).flatten H) (hS : va_S (fun q : Nat => s.heap.size ≤ q) s.heap H locs) (hl : lv_has ls 4 [(0, .ref b), (1, .ref (g 0)), (2, .ref (gm 0)), (3, .int i)]) : W p l e room_1 s m #[Value.ref b] below meth c H locs 600000 7302250 (lw_Z below #[Value.ref b] s) (F0 m 447 ls []) := by
  obtain ⟨hx, hb, hr, hml, hown, hts, hX, hbl, hlocks, hgv⟩ := C0
  have hA : ∀ q : Nat, s.heap.size ≤ q → (fun q : Nat => s.heap.size ≤ q) q := fun _ h => h
  have hbA : ¬ (fun q : Nat => s.heap.size ≤ q) b := Nat.not_le.mpr hbl
  obtain ⟨o, o', ho, ho', he, hR'⟩ := hop C u (xs (i + 1).toNatClampNeg) hR
  refine lv_aload_n hx hb dL_law_447 rfl (lv_at hl 1 rfl) ?_
  refine lv_aload_n hx hb dL_law_448 rfl (lv_at hl 0 rfl) ?_
  refine lv_iload_n hx hb dL_law_449 rfl (lv_at hl 3 rfl) ?_
  refine lv_iconst (v := 1) hx hb dL_law_450 (by decide) ?_
  refine lv_iadd hx hb dL_law_451 ?_
  refine va_sld hx hb hX hbl hbA hS h1 dL_law_452 ?_
  refine cl_iL [0, 1, 13, 15, 16, 14] [2, 3, 4, 5, 6, 7, 8, 9, 10, 11, 12, 17] [wT g, wS cT g 1 (C_now C), wV cT g 9 1 (C_sv C), wS cT g 13 (C_tr C), wV cT g 21 13 (C_ts C), wH cT g 25 (C_hi C), wS cT g 27 (C_r0 C), wS cT g 35 (C_r1 C), wS cT g 43 (C_r2 C), wS cT g 51 (C_r3 C), wS cT g 59 (C_r4 C), wS cT g 67 (C_r5 C), wX cT g 75 (C_tx C), wI cT g 77, wK cT g 94 o.2.2.2, wS cT g 78 o.2.1, wS cT g 86 o.2.2.1, wM cT gm 0 u] hP (va_D_adr hD (hadr _ _)) hA hS (va_runV (As := [.int (xs (i + 1).toNatClampNeg)]) (rest := []) ⟨hx, hb, hml, hown, hts⟩ (c_X4_keep l D cT g fu (C_now C) (C_i0 C) (C_i1 C) (C_kp C) (xs (i + 1).toNatClampNeg) o ho _) (cwV 1 hts (goodIn_app (goodIn_r _ [456, 457, 458, 44] (by decide +kernel) (by decide +kernel)) gl_X4_keep) rfl rfl rfl (by decide +kernel) ⟨Nat.le_of_ble_eq_true rfl, Nat.le_of_ble_eq_true rfl⟩) ⟨PRE_blind, va_recv hK hP (ci := 4) (q0 := 0) rfl rfl, PRE_ok [0, 1, 13, 15, 16, 14] (by decide) hP (va_D_adr hD (hadr _ _)) hA hS hK hN hZ⟩ rfl rfl hl.1 rfl (lv_room (Nat.le_of_ble_eq_true rfl)) dL_law_453 ⟨Nat.le_of_ble_eq_true rfl, Nat.le_of_ble_eq_true rfl⟩) rfl 18 rfl (by decide) (by decide) (fun H locs hP hS => ?_)
  replace hP : va_P D vwCl (LB cT g gm (C_kp_ (C_i1_ (C_i0_ C o.2.1) o.2.2.1) o.2.2.2) u).flatten H := hP
  refine lv_aload_n hx hb dL_law_456 rfl (lv_at hl 2 rfl) ?_
  refine lv_aload_n hx hb dL_law_457 rfl (lv_at hl 0 rfl) ?_
  refine lv_iload_n hx hb dL_law_458 rfl (lv_at hl 3 rfl) ?_
  refine lv_iconst (v := 1) hx hb dL_law_459 (by decide) ?_
  refine lv_iadd hx hb dL_law_460 ?_
  refine va_sld hx hb hX hbl hbA hS h1 dL_law_461 ?_
  refine cl_iL [17] [0, 1, 2, 3, 4, 5, 6, 7, 8, 9, 10, 11, 12, 13, 14, 15, 16] [wT g, wS cT g 1 (C_now C), wV cT g 9 1 (C_sv C), wS cT g 13 (C_tr C), wV cT g 21 13 (C_ts C), wH cT g 25 (C_hi C), wS cT g 27 (C_r0 C), wS cT g 35 (C_r1 C), wS cT g 43 (C_r2 C), wS cT g 51 (C_r3 C), wS cT g 59 (C_r4 C), wS cT g 67 (C_r5 C), wX cT g 75 (C_tx C), wI cT g 77, wK cT g 94 o.2.2.2, wS cT g 78 o.2.1, wS cT g 86 o.2.2.1, wM cT gm 0 o'.2] hP (va_D_adr hD (hadr _ _)) hA hS (va_runV (As := [.int (xs (i + 1).toNatClampNeg)]) (rest := [.int o.1]) ⟨hx, hb, hml, hown, hts⟩ (c_X5_keep l D cT gm 0 fu u (xs (i + 1).toNatClampNeg) o' ho' _) (cwV 1 hts (goodIn_app (goodIn_r _ [752, 753, 754, 50] (by decide +kernel) (by decide +kernel)) gl_X5_keep) rfl rfl rfl (by decide +kernel) ⟨Nat.le_of_ble_eq_true rfl, Nat.le_of_ble_eq_true rfl⟩) ⟨PRE_blind, va_recv hK hP (ci := 5) (q0 := 95) rfl rfl, PRE_ok [17] (by decide) hP (va_D_adr hD (hadr _ _)) hA hS hK hN hZ⟩ rfl rfl hl.1 rfl (lv_room (Nat.le_of_ble_eq_true rfl)) dL_law_462 ⟨Nat.le_of_ble_eq_true rfl, Nat.le_of_ble_eq_true rfl⟩) rfl 18 rfl (by decide) (by decide) (fun H locs hP hS => ?_)
  replace hP : va_P D vwCl (LB cT g gm (C_kp_ (C_i1_ (C_i0_ C o.2.1) o.2.2.1) o.2.2.2) o'.2).flatten H := hP
  refine lv_icmp_eq (tgt := 806) hx hb dL_law_465 (by decide) (fun _ => ?_) (fun h9 => absurd he h9)
  exact kk _ _ _ _ _ hR' hP hS hl
set_option maxHeartbeats 4000000 in
set_option maxRecDepth 100000 in
theorem lc_back {p : Program} {l : Launch} {e : Env} {s : State} {m : MethodId} {below : List Frame} {meth : Method} {c : Code} {D : va_G} {cT : Nat → ClassId} {b L : Nat} {xs : Nat → Int32} {g gm : Nat → Nat} {RR : TC → TM → Prop} {fu : Nat} {B0 : List va_W} (C0 : lw_At p s m meth c b L xs) (hK : va_K D vwCl (ty4 cT) s) (hN : NWs s) (hZ : STs (fun q : Nat => s.heap.size ≤ q) s s.heap) (hD : va_D (fun q : Nat => s.heap.size ≤ q) B0.flatten) (hadr : ∀ (C : TC) (u : TM), adr (LB cT g gm C u).flatten = adr B0.flatten) (hop : OP_back RR fu) {i : Int32} (h1 : vp_in (i + 1) L) (h2 : vp_in (i + 2) L) (h3 : vp_in (i + 3) L) (kk : ∀ (C : TC) (u : TM) (H : Heap) (locs : List Loc) (ls : Array Slot), RR C u → va_P D vwCl (LB cT g gm C u).flatten H → va_S (fun q : Nat => s.heap.size ≤ q) s.heap H locs → lv_has ls 4 [(0, .ref b), (1, .ref (g 0)), (2, .ref (gm 0)), (3, .int i)] → W p l e room_1 s m #[Value.ref b] below meth c H locs 600000 7302250 (lw_Z below #[Value.ref b] s) (F0 m 806 ls [])) {C : TC} {u : TM} {H : Heap} {locs : List Loc} {ls : Array Slot} (hR : RR C u) (hP : va_P D vwCl (LB cT g gm C u).flatten H) (hS : va_S (fun q : Nat => s.heap.size ≤ q) s.heap H locs) (hl : lv_has ls 4 [(0, .ref b), (1, .ref (g 0)), (2, .ref (gm 0)), (3, .int i)]) : W p l e room_1 s m #[Value.ref b] below meth c H locs 600000 7302250 (lw_Z below #[Value.ref b] s) (F0 m 470 ls []) := by
  obtain ⟨hx, hb, hr, hml, hown, hts, hX, hbl, hlocks, hgv⟩ := C0
  have hA : ∀ q : Nat, s.heap.size ≤ q → (fun q : Nat => s.heap.size ≤ q) q := fun _ h => h
  have hbA : ¬ (fun q : Nat => s.heap.size ≤ q) b := Nat.not_le.mpr hbl
  obtain ⟨o, o', ho, ho', he, hR'⟩ := hop C u (xs (i + 1).toNatClampNeg) hR
  refine lv_aload_n hx hb dL_law_470 rfl (lv_at hl 1 rfl) ?_
  refine lv_aload_n hx hb dL_law_471 rfl (lv_at hl 0 rfl) ?_
  refine lv_iload_n hx hb dL_law_472 rfl (lv_at hl 3 rfl) ?_
  refine lv_iconst (v := 1) hx hb dL_law_473 (by decide) ?_
  refine lv_iadd hx hb dL_law_474 ?_
  refine va_sld hx hb hX hbl hbA hS h1 dL_law_475 ?_
  refine cl_iL [0, 1, 5, 6, 7, 8, 9, 10, 11, 13, 15, 16, 14] [2, 3, 4, 12, 17] [wT g, wS cT g 1 o.2.1, wV cT g 9 1 (C_sv C), wS cT g 13 (C_tr C), wV cT g 21 13 (C_ts C), wH cT g 25 o.2.2.1, wS cT g 27 o.2.2.2.1, wS cT g 35 o.2.2.2.2.1, wS cT g 43 o.2.2.2.2.2.1, wS cT g 51 o.2.2.2.2.2.2.1, wS cT g 59 o.2.2.2.2.2.2.2.1, wS cT g 67 o.2.2.2.2.2.2.2.2, wX cT g 75 (C_tx C), wI cT g 77, wK cT g 94 (C_kp C), wS cT g 78 (C_i0 C), wS cT g 86 (C_i1 C), wM cT gm 0 u] hP (va_D_adr hD (hadr _ _)) hA hS (va_runV (As := [.int (xs (i + 1).toNatClampNeg)]) (rest := []) ⟨hx, hb, hml, hown, hts⟩ (c_X4_back l D cT g fu (C_now C) (C_hi C) (C_r0 C) (C_r1 C) (C_r2 C) (C_r3 C) (C_r4 C) (C_r5 C) (C_i0 C) (C_i1 C) (C_kp C) (xs (i + 1).toNatClampNeg) o ho _) (cwV 1 hts (goodIn_app (goodIn_r _ [460, 461, 462, 44] (by decide +kernel) (by decide +kernel)) gl_X4_back) rfl rfl rfl (by decide +kernel) ⟨Nat.le_of_ble_eq_true rfl, Nat.le_of_ble_eq_true rfl⟩) ⟨PRE_blind, va_recv hK hP (ci := 4) (q0 := 0) rfl rfl, PRE_ok [0, 1, 5, 6, 7, 8, 9, 10, 11, 13, 15, 16, 14] (by decide) hP (va_D_adr hD (hadr _ _)) hA hS hK hN hZ⟩ rfl rfl hl.1 rfl (lv_room (Nat.le_of_ble_eq_true rfl)) dL_law_476 ⟨Nat.le_of_ble_eq_true rfl, Nat.le_of_ble_eq_true rfl⟩) rfl 18 rfl (by decide) (by decide) (fun H locs hP hS => ?_)
  replace hP : va_P D vwCl (LB cT g gm (C_r5_ (C_r4_ (C_r3_ (C_r2_ (C_r1_ (C_r0_ (C_hi_ (C_now_ C o.2.1) o.2.2.1) o.2.2.2.1) o.2.2.2.2.1) o.2.2.2.2.2.1) o.2.2.2.2.2.2.1) o.2.2.2.2.2.2.2.1) o.2.2.2.2.2.2.2.2) u).flatten H := hP
  refine lv_aload_n hx hb dL_law_479 rfl (lv_at hl 2 rfl) ?_
  refine lv_aload_n hx hb dL_law_480 rfl (lv_at hl 0 rfl) ?_
  refine lv_iload_n hx hb dL_law_481 rfl (lv_at hl 3 rfl) ?_
  refine lv_iconst (v := 1) hx hb dL_law_482 (by decide) ?_
  refine lv_iadd hx hb dL_law_483 ?_
  refine va_sld hx hb hX hbl hbA hS h1 dL_law_484 ?_
  refine cl_iL [17] [0, 1, 2, 3, 4, 5, 6, 7, 8, 9, 10, 11, 12, 13, 14, 15, 16] [wT g, wS cT g 1 o.2.1, wV cT g 9 1 (C_sv C), wS cT g 13 (C_tr C), wV cT g 21 13 (C_ts C), wH cT g 25 o.2.2.1, wS cT g 27 o.2.2.2.1, wS cT g 35 o.2.2.2.2.1, wS cT g 43 o.2.2.2.2.2.1, wS cT g 51 o.2.2.2.2.2.2.1, wS cT g 59 o.2.2.2.2.2.2.2.1, wS cT g 67 o.2.2.2.2.2.2.2.2, wX cT g 75 (C_tx C), wI cT g 77, wK cT g 94 (C_kp C), wS cT g 78 (C_i0 C), wS cT g 86 (C_i1 C), wM cT gm 0 o'.2] hP (va_D_adr hD (hadr _ _)) hA hS (va_runV (As := [.int (xs (i + 1).toNatClampNeg)]) (rest := [.int o.1]) ⟨hx, hb, hml, hown, hts⟩ (c_X5_back l D cT gm 0 fu u (xs (i + 1).toNatClampNeg) o' ho' _) (cwV 1 hts (goodIn_app (goodIn_r _ [759, 760, 761, 50] (by decide +kernel) (by decide +kernel)) gl_X5_back) rfl rfl rfl (by decide +kernel) ⟨Nat.le_of_ble_eq_true rfl, Nat.le_of_ble_eq_true rfl⟩) ⟨PRE_blind, va_recv hK hP (ci := 5) (q0 := 95) rfl rfl, PRE_ok [17] (by decide) hP (va_D_adr hD (hadr _ _)) hA hS hK hN hZ⟩ rfl rfl hl.1 rfl (lv_room (Nat.le_of_ble_eq_true rfl)) dL_law_485 ⟨Nat.le_of_ble_eq_true rfl, Nat.le_of_ble_eq_true rfl⟩) rfl 18 rfl (by decide) (by decide) (fun H locs hP hS => ?_)
  replace hP : va_P D vwCl (LB cT g gm (C_r5_ (C_r4_ (C_r3_ (C_r2_ (C_r1_ (C_r0_ (C_hi_ (C_now_ C o.2.1) o.2.2.1) o.2.2.2.1) o.2.2.2.2.1) o.2.2.2.2.2.1) o.2.2.2.2.2.2.1) o.2.2.2.2.2.2.2.1) o.2.2.2.2.2.2.2.2) o'.2).flatten H := hP
  refine lv_icmp_eq (tgt := 806) hx hb dL_law_488 (by decide) (fun _ => ?_) (fun h9 => absurd he h9)
  exact kk _ _ _ _ _ hR' hP hS hl
set_option maxHeartbeats 4000000 in
set_option maxRecDepth 100000 in
theorem lc_undo {p : Program} {l : Launch} {e : Env} {s : State} {m : MethodId} {below : List Frame} {meth : Method} {c : Code} {D : va_G} {cT : Nat → ClassId} {b L : Nat} {xs : Nat → Int32} {g gm : Nat → Nat} {RR : TC → TM → Prop} {fu : Nat} {B0 : List va_W} (C0 : lw_At p s m meth c b L xs) (hK : va_K D vwCl (ty4 cT) s) (hN : NWs s) (hZ : STs (fun q : Nat => s.heap.size ≤ q) s s.heap) (hD : va_D (fun q : Nat => s.heap.size ≤ q) B0.flatten) (hadr : ∀ (C : TC) (u : TM), adr (LB cT g gm C u).flatten = adr B0.flatten) (hop : OP_undo RR fu) {i : Int32} (h1 : vp_in (i + 1) L) (h2 : vp_in (i + 2) L) (h3 : vp_in (i + 3) L) (kk : ∀ (C : TC) (u : TM) (H : Heap) (locs : List Loc) (ls : Array Slot), RR C u → va_P D vwCl (LB cT g gm C u).flatten H → va_S (fun q : Nat => s.heap.size ≤ q) s.heap H locs → lv_has ls 4 [(0, .ref b), (1, .ref (g 0)), (2, .ref (gm 0)), (3, .int i)] → W p l e room_1 s m #[Value.ref b] below meth c H locs 600000 7302250 (lw_Z below #[Value.ref b] s) (F0 m 806 ls [])) {C : TC} {u : TM} {H : Heap} {locs : List Loc} {ls : Array Slot} (hR : RR C u) (hP : va_P D vwCl (LB cT g gm C u).flatten H) (hS : va_S (fun q : Nat => s.heap.size ≤ q) s.heap H locs) (hl : lv_has ls 4 [(0, .ref b), (1, .ref (g 0)), (2, .ref (gm 0)), (3, .int i)]) : W p l e room_1 s m #[Value.ref b] below meth c H locs 600000 7302250 (lw_Z below #[Value.ref b] s) (F0 m 493 ls []) := by
  obtain ⟨hx, hb, hr, hml, hown, hts, hX, hbl, hlocks, hgv⟩ := C0
  have hA : ∀ q : Nat, s.heap.size ≤ q → (fun q : Nat => s.heap.size ≤ q) q := fun _ h => h
  have hbA : ¬ (fun q : Nat => s.heap.size ≤ q) b := Nat.not_le.mpr hbl
  obtain ⟨o, o', ho, ho', he, hR'⟩ := hop C u  hR
  refine lv_aload_n hx hb dL_law_493 rfl (lv_at hl 1 rfl) ?_
  refine cl_iL [0, 1, 5, 6, 7, 8, 9, 10, 11] [2, 3, 4, 12, 13, 14, 15, 16, 17] [wT g, wS cT g 1 o.2.1, wV cT g 9 1 (C_sv C), wS cT g 13 (C_tr C), wV cT g 21 13 (C_ts C), wH cT g 25 o.2.2, wS cT g 27 (C_r0 C), wS cT g 35 (C_r1 C), wS cT g 43 (C_r2 C), wS cT g 51 (C_r3 C), wS cT g 59 (C_r4 C), wS cT g 67 (C_r5 C), wX cT g 75 (C_tx C), wI cT g 77, wK cT g 94 (C_kp C), wS cT g 78 (C_i0 C), wS cT g 86 (C_i1 C), wM cT gm 0 u] hP (va_D_adr hD (hadr _ _)) hA hS (va_runV (As := []) (rest := []) ⟨hx, hb, hml, hown, hts⟩ (c_X4_undo l D cT g fu (C_now C) (C_hi C) (C_r0 C) (C_r1 C) (C_r2 C) (C_r3 C) (C_r4 C) (C_r5 C)  o ho _) (cwV 0 hts (goodIn_app (goodIn_r _ [464, 465, 466, 44] (by decide +kernel) (by decide +kernel)) gl_X4_undo) rfl rfl rfl (by decide +kernel) ⟨Nat.le_of_ble_eq_true rfl, Nat.le_of_ble_eq_true rfl⟩) ⟨PRE_blind, va_recv hK hP (ci := 4) (q0 := 0) rfl rfl, PRE_ok [0, 1, 5, 6, 7, 8, 9, 10, 11] (by decide) hP (va_D_adr hD (hadr _ _)) hA hS hK hN hZ⟩ rfl rfl hl.1 rfl (lv_room (Nat.le_of_ble_eq_true rfl)) dL_law_494 ⟨Nat.le_of_ble_eq_true rfl, Nat.le_of_ble_eq_true rfl⟩) rfl 18 rfl (by decide) (by decide) (fun H locs hP hS => ?_)
  replace hP : va_P D vwCl (LB cT g gm (C_hi_ (C_now_ C o.2.1) o.2.2) u).flatten H := hP
  refine lv_aload_n hx hb dL_law_497 rfl (lv_at hl 2 rfl) ?_
  refine cl_iL [17] [0, 1, 2, 3, 4, 5, 6, 7, 8, 9, 10, 11, 12, 13, 14, 15, 16] [wT g, wS cT g 1 o.2.1, wV cT g 9 1 (C_sv C), wS cT g 13 (C_tr C), wV cT g 21 13 (C_ts C), wH cT g 25 o.2.2, wS cT g 27 (C_r0 C), wS cT g 35 (C_r1 C), wS cT g 43 (C_r2 C), wS cT g 51 (C_r3 C), wS cT g 59 (C_r4 C), wS cT g 67 (C_r5 C), wX cT g 75 (C_tx C), wI cT g 77, wK cT g 94 (C_kp C), wS cT g 78 (C_i0 C), wS cT g 86 (C_i1 C), wM cT gm 0 o'.2] hP (va_D_adr hD (hadr _ _)) hA hS (va_runV (As := []) (rest := [.int o.1]) ⟨hx, hb, hml, hown, hts⟩ (c_X5_undo l D cT gm 0 fu u  o' ho' _) (cwV 0 hts (goodIn_app (goodIn_r _ [581, 582, 583, 50] (by decide +kernel) (by decide +kernel)) gl_X5_undo) rfl rfl rfl (by decide +kernel) ⟨Nat.le_of_ble_eq_true rfl, Nat.le_of_ble_eq_true rfl⟩) ⟨PRE_blind, va_recv hK hP (ci := 5) (q0 := 95) rfl rfl, PRE_ok [17] (by decide) hP (va_D_adr hD (hadr _ _)) hA hS hK hN hZ⟩ rfl rfl hl.1 rfl (lv_room (Nat.le_of_ble_eq_true rfl)) dL_law_498 ⟨Nat.le_of_ble_eq_true rfl, Nat.le_of_ble_eq_true rfl⟩) rfl 18 rfl (by decide) (by decide) (fun H locs hP hS => ?_)
  replace hP : va_P D vwCl (LB cT g gm (C_hi_ (C_now_ C o.2.1) o.2.2) o'.2).flatten H := hP
  refine lv_icmp_eq (tgt := 806) hx hb dL_law_501 (by decide) (fun _ => ?_) (fun h9 => absurd he h9)
  exact kk _ _ _ _ _ hR' hP hS hl
set_option maxHeartbeats 4000000 in
set_option maxRecDepth 100000 in
theorem lc_count {p : Program} {l : Launch} {e : Env} {s : State} {m : MethodId} {below : List Frame} {meth : Method} {c : Code} {D : va_G} {cT : Nat → ClassId} {b L : Nat} {xs : Nat → Int32} {g gm : Nat → Nat} {RR : TC → TM → Prop} {fu : Nat} {B0 : List va_W} (C0 : lw_At p s m meth c b L xs) (hK : va_K D vwCl (ty4 cT) s) (hN : NWs s) (hZ : STs (fun q : Nat => s.heap.size ≤ q) s s.heap) (hD : va_D (fun q : Nat => s.heap.size ≤ q) B0.flatten) (hadr : ∀ (C : TC) (u : TM), adr (LB cT g gm C u).flatten = adr B0.flatten) (hop : OP_count RR fu) {i : Int32} (h1 : vp_in (i + 1) L) (h2 : vp_in (i + 2) L) (h3 : vp_in (i + 3) L) (kk : ∀ (C : TC) (u : TM) (H : Heap) (locs : List Loc) (ls : Array Slot), RR C u → va_P D vwCl (LB cT g gm C u).flatten H → va_S (fun q : Nat => s.heap.size ≤ q) s.heap H locs → lv_has ls 4 [(0, .ref b), (1, .ref (g 0)), (2, .ref (gm 0)), (3, .int i)] → W p l e room_1 s m #[Value.ref b] below meth c H locs 600000 7302250 (lw_Z below #[Value.ref b] s) (F0 m 806 ls [])) {C : TC} {u : TM} {H : Heap} {locs : List Loc} {ls : Array Slot} (hR : RR C u) (hP : va_P D vwCl (LB cT g gm C u).flatten H) (hS : va_S (fun q : Nat => s.heap.size ≤ q) s.heap H locs) (hl : lv_has ls 4 [(0, .ref b), (1, .ref (g 0)), (2, .ref (gm 0)), (3, .int i)]) : W p l e room_1 s m #[Value.ref b] below meth c H locs 600000 7302250 (lw_Z below #[Value.ref b] s) (F0 m 506 ls []) := by
  obtain ⟨hx, hb, hr, hml, hown, hts, hX, hbl, hlocks, hgv⟩ := C0
  have hA : ∀ q : Nat, s.heap.size ≤ q → (fun q : Nat => s.heap.size ≤ q) q := fun _ h => h
  have hbA : ¬ (fun q : Nat => s.heap.size ≤ q) b := Nat.not_le.mpr hbl
  obtain ⟨o, o', ho, ho', he, hR'⟩ := hop C u (xs (i + 1).toNatClampNeg) hR
  refine lv_aload_n hx hb dL_law_506 rfl (lv_at hl 1 rfl) ?_
  refine lv_aload_n hx hb dL_law_507 rfl (lv_at hl 0 rfl) ?_
  refine lv_iload_n hx hb dL_law_508 rfl (lv_at hl 3 rfl) ?_
  refine lv_iconst (v := 1) hx hb dL_law_509 (by decide) ?_
  refine lv_iadd hx hb dL_law_510 ?_
  refine va_sld hx hb hX hbl hbA hS h1 dL_law_511 ?_
  refine cl_iL [0, 1, 2, 5, 12, 14] [3, 4, 6, 7, 8, 9, 10, 11, 13, 15, 16, 17] [wT g, wS cT g 1 (C_now C), wV cT g 9 1 o.2, wS cT g 13 (C_tr C), wV cT g 21 13 (C_ts C), wH cT g 25 (C_hi C), wS cT g 27 (C_r0 C), wS cT g 35 (C_r1 C), wS cT g 43 (C_r2 C), wS cT g 51 (C_r3 C), wS cT g 59 (C_r4 C), wS cT g 67 (C_r5 C), wX cT g 75 (C_tx C), wI cT g 77, wK cT g 94 (C_kp C), wS cT g 78 (C_i0 C), wS cT g 86 (C_i1 C), wM cT gm 0 u] hP (va_D_adr hD (hadr _ _)) hA hS (va_runV (As := [.int (xs (i + 1).toNatClampNeg)]) (rest := []) ⟨hx, hb, hml, hown, hts⟩ (c_X4_count l D cT g fu (C_now C) (C_sv C) (C_hi C) (C_tx C) (C_kp C) (xs (i + 1).toNatClampNeg) o ho _) (cwV 1 hts (goodIn_app (goodIn_r _ [472, 473, 474, 44] (by decide +kernel) (by decide +kernel)) gl_X4_count) rfl rfl rfl (by decide +kernel) ⟨Nat.le_of_ble_eq_true rfl, Nat.le_of_ble_eq_true rfl⟩) ⟨PRE_blind, va_recv hK hP (ci := 4) (q0 := 0) rfl rfl, PRE_ok [0, 1, 2, 5, 12, 14] (by decide) hP (va_D_adr hD (hadr _ _)) hA hS hK hN hZ⟩ rfl rfl hl.1 rfl (lv_room (Nat.le_of_ble_eq_true rfl)) dL_law_512 ⟨Nat.le_of_ble_eq_true rfl, Nat.le_of_ble_eq_true rfl⟩) rfl 18 rfl (by decide) (by decide) (fun H locs hP hS => ?_)
  replace hP : va_P D vwCl (LB cT g gm (C_sv_ C o.2) u).flatten H := hP
  refine lv_aload_n hx hb dL_law_515 rfl (lv_at hl 2 rfl) ?_
  refine lv_aload_n hx hb dL_law_516 rfl (lv_at hl 0 rfl) ?_
  refine lv_iload_n hx hb dL_law_517 rfl (lv_at hl 3 rfl) ?_
  refine lv_iconst (v := 1) hx hb dL_law_518 (by decide) ?_
  refine lv_iadd hx hb dL_law_519 ?_
  refine va_sld hx hb hX hbl hbA hS h1 dL_law_520 ?_
  refine cl_iL [17] [0, 1, 2, 3, 4, 5, 6, 7, 8, 9, 10, 11, 12, 13, 14, 15, 16] [wT g, wS cT g 1 (C_now C), wV cT g 9 1 o.2, wS cT g 13 (C_tr C), wV cT g 21 13 (C_ts C), wH cT g 25 (C_hi C), wS cT g 27 (C_r0 C), wS cT g 35 (C_r1 C), wS cT g 43 (C_r2 C), wS cT g 51 (C_r3 C), wS cT g 59 (C_r4 C), wS cT g 67 (C_r5 C), wX cT g 75 (C_tx C), wI cT g 77, wK cT g 94 (C_kp C), wS cT g 78 (C_i0 C), wS cT g 86 (C_i1 C), wM cT gm 0 o'.2] hP (va_D_adr hD (hadr _ _)) hA hS (va_runV (As := [.int (xs (i + 1).toNatClampNeg)]) (rest := [.int o.1]) ⟨hx, hb, hml, hown, hts⟩ (c_X5_count l D cT gm 0 fu u (xs (i + 1).toNatClampNeg) o' ho' _) (cwV 1 hts (goodIn_app (goodIn_r _ [763, 764, 765, 50] (by decide +kernel) (by decide +kernel)) gl_X5_count) rfl rfl rfl (by decide +kernel) ⟨Nat.le_of_ble_eq_true rfl, Nat.le_of_ble_eq_true rfl⟩) ⟨PRE_blind, va_recv hK hP (ci := 5) (q0 := 95) rfl rfl, PRE_ok [17] (by decide) hP (va_D_adr hD (hadr _ _)) hA hS hK hN hZ⟩ rfl rfl hl.1 rfl (lv_room (Nat.le_of_ble_eq_true rfl)) dL_law_521 ⟨Nat.le_of_ble_eq_true rfl, Nat.le_of_ble_eq_true rfl⟩) rfl 18 rfl (by decide) (by decide) (fun H locs hP hS => ?_)
  replace hP : va_P D vwCl (LB cT g gm (C_sv_ C o.2) o'.2).flatten H := hP
  refine lv_icmp_eq (tgt := 806) hx hb dL_law_524 (by decide) (fun _ => ?_) (fun h9 => absurd he h9)
  exact kk _ _ _ _ _ hR' hP hS hl
set_option maxHeartbeats 4000000 in
set_option maxRecDepth 100000 in
theorem lc_sleeper {p : Program} {l : Launch} {e : Env} {s : State} {m : MethodId} {below : List Frame} {meth : Method} {c : Code} {D : va_G} {cT : Nat → ClassId} {b L : Nat} {xs : Nat → Int32} {g gm : Nat → Nat} {RR : TC → TM → Prop} {fu : Nat} {B0 : List va_W} (C0 : lw_At p s m meth c b L xs) (hK : va_K D vwCl (ty4 cT) s) (hN : NWs s) (hZ : STs (fun q : Nat => s.heap.size ≤ q) s s.heap) (hD : va_D (fun q : Nat => s.heap.size ≤ q) B0.flatten) (hadr : ∀ (C : TC) (u : TM), adr (LB cT g gm C u).flatten = adr B0.flatten) (hop : OP_sleeper RR fu) {i : Int32} (h1 : vp_in (i + 1) L) (h2 : vp_in (i + 2) L) (h3 : vp_in (i + 3) L) (kk : ∀ (C : TC) (u : TM) (H : Heap) (locs : List Loc) (ls : Array Slot), RR C u → va_P D vwCl (LB cT g gm C u).flatten H → va_S (fun q : Nat => s.heap.size ≤ q) s.heap H locs → lv_has ls 4 [(0, .ref b), (1, .ref (g 0)), (2, .ref (gm 0)), (3, .int i)] → W p l e room_1 s m #[Value.ref b] below meth c H locs 600000 7302250 (lw_Z below #[Value.ref b] s) (F0 m 806 ls [])) {C : TC} {u : TM} {H : Heap} {locs : List Loc} {ls : Array Slot} (hR : RR C u) (hP : va_P D vwCl (LB cT g gm C u).flatten H) (hS : va_S (fun q : Nat => s.heap.size ≤ q) s.heap H locs) (hl : lv_has ls 4 [(0, .ref b), (1, .ref (g 0)), (2, .ref (gm 0)), (3, .int i)]) : W p l e room_1 s m #[Value.ref b] below meth c H locs 600000 7302250 (lw_Z below #[Value.ref b] s) (F0 m 529 ls []) := by
  obtain ⟨hx, hb, hr, hml, hown, hts, hX, hbl, hlocks, hgv⟩ := C0
  have hA : ∀ q : Nat, s.heap.size ≤ q → (fun q : Nat => s.heap.size ≤ q) q := fun _ h => h
  have hbA : ¬ (fun q : Nat => s.heap.size ≤ q) b := Nat.not_le.mpr hbl
  obtain ⟨o, o', ho, ho', he, hR'⟩ := hop C u (xs (i + 1).toNatClampNeg) (xs (i + 2).toNatClampNeg) hR
  refine lv_aload_n hx hb dL_law_529 rfl (lv_at hl 1 rfl) ?_
  refine lv_aload_n hx hb dL_law_530 rfl (lv_at hl 0 rfl) ?_
  refine lv_iload_n hx hb dL_law_531 rfl (lv_at hl 3 rfl) ?_
  refine lv_iconst (v := 1) hx hb dL_law_532 (by decide) ?_
  refine lv_iadd hx hb dL_law_533 ?_
  refine va_sld hx hb hX hbl hbA hS h1 dL_law_534 ?_
  refine lv_aload_n hx hb dL_law_535 rfl (lv_at hl 0 rfl) ?_
  refine lv_iload_n hx hb dL_law_536 rfl (lv_at hl 3 rfl) ?_
  refine lv_iconst (v := 2) hx hb dL_law_537 (by decide) ?_
  refine lv_iadd hx hb dL_law_538 ?_
  refine va_sld hx hb hX hbl hbA hS h2 dL_law_539 ?_
  refine cl_iL [0, 1, 2] [3, 4, 5, 6, 7, 8, 9, 10, 11, 12, 13, 14, 15, 16, 17] [wT g, wS cT g 1 (C_now C), wV cT g 9 1 o.2, wS cT g 13 (C_tr C), wV cT g 21 13 (C_ts C), wH cT g 25 (C_hi C), wS cT g 27 (C_r0 C), wS cT g 35 (C_r1 C), wS cT g 43 (C_r2 C), wS cT g 51 (C_r3 C), wS cT g 59 (C_r4 C), wS cT g 67 (C_r5 C), wX cT g 75 (C_tx C), wI cT g 77, wK cT g 94 (C_kp C), wS cT g 78 (C_i0 C), wS cT g 86 (C_i1 C), wM cT gm 0 u] hP (va_D_adr hD (hadr _ _)) hA hS (va_runV (As := [.int (xs (i + 1).toNatClampNeg), .int (xs (i + 2).toNatClampNeg)]) (rest := []) ⟨hx, hb, hml, hown, hts⟩ (c_X4_sleeper l D cT g fu (C_now C) (C_sv C) (xs (i + 1).toNatClampNeg) (xs (i + 2).toNatClampNeg) o ho _) (cwV 2 hts (goodIn_app (goodIn_r _ [480, 481, 482, 44] (by decide +kernel) (by decide +kernel)) gl_X4_sleeper) rfl rfl rfl (by decide +kernel) ⟨Nat.le_of_ble_eq_true rfl, Nat.le_of_ble_eq_true rfl⟩) ⟨PRE_blind, va_recv hK hP (ci := 4) (q0 := 0) rfl rfl, PRE_ok [0, 1, 2] (by decide) hP (va_D_adr hD (hadr _ _)) hA hS hK hN hZ⟩ rfl rfl hl.1 rfl (lv_room (Nat.le_of_ble_eq_true rfl)) dL_law_540 ⟨Nat.le_of_ble_eq_true rfl, Nat.le_of_ble_eq_true rfl⟩) rfl 18 rfl (by decide) (by decide) (fun H locs hP hS => ?_)
  replace hP : va_P D vwCl (LB cT g gm (C_sv_ C o.2) u).flatten H := hP
  refine lv_aload_n hx hb dL_law_543 rfl (lv_at hl 2 rfl) ?_
  refine lv_aload_n hx hb dL_law_544 rfl (lv_at hl 0 rfl) ?_
  refine lv_iload_n hx hb dL_law_545 rfl (lv_at hl 3 rfl) ?_
  refine lv_iconst (v := 1) hx hb dL_law_546 (by decide) ?_
  refine lv_iadd hx hb dL_law_547 ?_
  refine va_sld hx hb hX hbl hbA hS h1 dL_law_548 ?_
  refine lv_aload_n hx hb dL_law_549 rfl (lv_at hl 0 rfl) ?_
  refine lv_iload_n hx hb dL_law_550 rfl (lv_at hl 3 rfl) ?_
  refine lv_iconst (v := 2) hx hb dL_law_551 (by decide) ?_
  refine lv_iadd hx hb dL_law_552 ?_
  refine va_sld hx hb hX hbl hbA hS h2 dL_law_553 ?_
  refine cl_iL [17] [0, 1, 2, 3, 4, 5, 6, 7, 8, 9, 10, 11, 12, 13, 14, 15, 16] [wT g, wS cT g 1 (C_now C), wV cT g 9 1 o.2, wS cT g 13 (C_tr C), wV cT g 21 13 (C_ts C), wH cT g 25 (C_hi C), wS cT g 27 (C_r0 C), wS cT g 35 (C_r1 C), wS cT g 43 (C_r2 C), wS cT g 51 (C_r3 C), wS cT g 59 (C_r4 C), wS cT g 67 (C_r5 C), wX cT g 75 (C_tx C), wI cT g 77, wK cT g 94 (C_kp C), wS cT g 78 (C_i0 C), wS cT g 86 (C_i1 C), wM cT gm 0 o'.2] hP (va_D_adr hD (hadr _ _)) hA hS (va_runV (As := [.int (xs (i + 1).toNatClampNeg), .int (xs (i + 2).toNatClampNeg)]) (rest := [.int o.1]) ⟨hx, hb, hml, hown, hts⟩ (c_X5_sleeper l D cT gm 0 fu u (xs (i + 1).toNatClampNeg) (xs (i + 2).toNatClampNeg) o' ho' _) (cwV 2 hts (goodIn_app (goodIn_r _ [771, 772, 773, 50] (by decide +kernel) (by decide +kernel)) gl_X5_sleeper) rfl rfl rfl (by decide +kernel) ⟨Nat.le_of_ble_eq_true rfl, Nat.le_of_ble_eq_true rfl⟩) ⟨PRE_blind, va_recv hK hP (ci := 5) (q0 := 95) rfl rfl, PRE_ok [17] (by decide) hP (va_D_adr hD (hadr _ _)) hA hS hK hN hZ⟩ rfl rfl hl.1 rfl (lv_room (Nat.le_of_ble_eq_true rfl)) dL_law_554 ⟨Nat.le_of_ble_eq_true rfl, Nat.le_of_ble_eq_true rfl⟩) rfl 18 rfl (by decide) (by decide) (fun H locs hP hS => ?_)
  replace hP : va_P D vwCl (LB cT g gm (C_sv_ C o.2) o'.2).flatten H := hP
  refine lv_icmp_eq (tgt := 806) hx hb dL_law_557 (by decide) (fun _ => ?_) (fun h9 => absurd he h9)
  exact kk _ _ _ _ _ hR' hP hS hl
