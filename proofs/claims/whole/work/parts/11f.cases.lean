set_option maxHeartbeats 4000000 in
set_option maxRecDepth 100000 in
theorem lc_job {p : Program} {l : Launch} {e : Env} {s : State} {m : MethodId} {below : List Frame} {meth : Method} {c : Code} {D : va_G} {cT : Nat → ClassId} {b L : Nat} {xs : Nat → Int32} {g gm : Nat → Nat} {RR : TC → TM → Prop} {fu : Nat} {B0 : List va_W} (C0 : lw_At p s m meth c b L xs) (hK : va_K D vwCl (ty4 cT) s) (hN : NWs s) (hZ : STs (fun q : Nat => s.heap.size ≤ q) s s.heap) (hD : va_D (fun q : Nat => s.heap.size ≤ q) B0.flatten) (hadr : ∀ (C : TC) (u : TM), adr (LB cT g gm C u).flatten = adr B0.flatten) (hop : OP_job RR fu) {i : Int32} (h1 : vp_in (i + 1) L) (h2 : vp_in (i + 2) L) (h3 : vp_in (i + 3) L) (kk : ∀ (C : TC) (u : TM) (H : Heap) (locs : List Loc) (ls : Array Slot), RR C u → va_P D vwCl (LB cT g gm C u).flatten H → va_S (fun q : Nat => s.heap.size ≤ q) s.heap H locs → lv_has ls 4 [(0, .ref b), (1, .ref (g 0)), (2, .ref (gm 0)), (3, .int i)] → W p l e room_1 s m #[Value.ref b] below meth c H locs 600000 7302250 (lw_Z below #[Value.ref b] s) (F0 m 806 ls [])) {C : TC} {u : TM} {H : Heap} {locs : List Loc} {ls : Array Slot} (hR : RR C u) (hP : va_P D vwCl (LB cT g gm C u).flatten H) (hS : va_S (fun q : Nat => s.heap.size ≤ q) s.heap H locs) (hl : lv_has ls 4 [(0, .ref b), (1, .ref (g 0)), (2, .ref (gm 0)), (3, .int i)]) : W p l e room_1 s m #[Value.ref b] below meth c H locs 600000 7302250 (lw_Z below #[Value.ref b] s) (F0 m 562 ls []) := by
  obtain ⟨xNow, xSv, xTr, xTs, xHi, xR0, xR1, xR2, xR3, xR4, xR5, xTx, xKp, xI0, xI1⟩ := C
  obtain ⟨hx, hb, hr, hml, hown, hts, hX, hbl, hlocks, hgv⟩ := C0
  have hA : ∀ q : Nat, s.heap.size ≤ q → (fun q : Nat => s.heap.size ≤ q) q := fun _ h => h
  have hbA : ¬ (fun q : Nat => s.heap.size ≤ q) b := Nat.not_le.mpr hbl
  obtain ⟨o, o', ho, ho', he, hR'⟩ := hop (xNow, xSv, xTr, xTs, xHi, xR0, xR1, xR2, xR3, xR4, xR5, xTx, xKp, xI0, xI1) u (xs (i + 1).toNatClampNeg) (xs (i + 2).toNatClampNeg) hR
  replace ho : f_X4_job fu xNow (xs (i + 1).toNatClampNeg) (xs (i + 2).toNatClampNeg) = some o := ho
  replace hP : va_P D vwCl (List.flatten [wT g, wS cT g 1 xNow, wV cT g 9 1 xSv, wS cT g 13 xTr, wV cT g 21 13 xTs, wH cT g 25 xHi, wS cT g 27 xR0, wS cT g 35 xR1, wS cT g 43 xR2, wS cT g 51 xR3, wS cT g 59 xR4, wS cT g 67 xR5, wX cT g 75 xTx, wI cT g 77, wK cT g 94 xKp, wS cT g 78 xI0, wS cT g 86 xI1, wM cT gm 0 u]) H := hP
  have hD0 : va_D (fun q : Nat => s.heap.size ≤ q) (List.flatten [wT g, wS cT g 1 xNow, wV cT g 9 1 xSv, wS cT g 13 xTr, wV cT g 21 13 xTs, wH cT g 25 xHi, wS cT g 27 xR0, wS cT g 35 xR1, wS cT g 43 xR2, wS cT g 51 xR3, wS cT g 59 xR4, wS cT g 67 xR5, wX cT g 75 xTx, wI cT g 77, wK cT g 94 xKp, wS cT g 78 xI0, wS cT g 86 xI1, wM cT gm 0 u]) := va_D_adr hD (hadr (xNow, xSv, xTr, xTs, xHi, xR0, xR1, xR2, xR3, xR4, xR5, xTx, xKp, xI0, xI1) u)
  refine lv_aload_n hx hb dL_law_562 rfl (lv_at hl 1 rfl) ?_
  refine lv_aload_n hx hb dL_law_563 rfl (lv_at hl 0 rfl) ?_
  refine lv_iload_n hx hb dL_law_564 rfl (lv_at hl 3 rfl) ?_
  refine lv_iconst (v := 1) hx hb dL_law_565 (by decide) ?_
  refine lv_iadd hx hb dL_law_566 ?_
  refine va_sld hx hb hX hbl hbA hS h1 dL_law_567 ?_
  refine lv_aload_n hx hb dL_law_568 rfl (lv_at hl 0 rfl) ?_
  refine lv_iload_n hx hb dL_law_569 rfl (lv_at hl 3 rfl) ?_
  refine lv_iconst (v := 2) hx hb dL_law_570 (by decide) ?_
  refine lv_iadd hx hb dL_law_571 ?_
  refine va_sld hx hb hX hbl hbA hS h2 dL_law_572 ?_
  refine cl_iL [0, 1] [2, 3, 4, 5, 6, 7, 8, 9, 10, 11, 12, 13, 14, 15, 16, 17] [wT g, wS cT g 1 xNow, wV cT g 9 1 xSv, wS cT g 13 xTr, wV cT g 21 13 xTs, wH cT g 25 xHi, wS cT g 27 xR0, wS cT g 35 xR1, wS cT g 43 xR2, wS cT g 51 xR3, wS cT g 59 xR4, wS cT g 67 xR5, wX cT g 75 xTx, wI cT g 77, wK cT g 94 xKp, wS cT g 78 xI0, wS cT g 86 xI1, wM cT gm 0 u] hP hD0 hA hS (va_runV (As := [.int (xs (i + 1).toNatClampNeg), .int (xs (i + 2).toNatClampNeg)]) (rest := []) ⟨hx, hb, hml, hown, hts⟩ (c_X4_job l D cT g fu xNow (xs (i + 1).toNatClampNeg) (xs (i + 2).toNatClampNeg) o ho _) (cwV 2 hts (goodIn_app (goodIn_r _ [492, 493, 494, 44] (by decide +kernel) (by decide +kernel)) gl_X4_job) rfl rfl rfl (by decide +kernel) ⟨Nat.le_of_ble_eq_true rfl, Nat.le_of_ble_eq_true rfl⟩) ⟨PRE_blind, va_recv hK hP (ci := 4) (q0 := 0) rfl rfl, PRE_ok [0, 1] (by decide) hP hD0 hA hS hK hN hZ⟩ rfl rfl hl.1 rfl (lv_room (Nat.le_of_ble_eq_true rfl)) dL_law_573 ⟨Nat.le_of_ble_eq_true rfl, Nat.le_of_ble_eq_true rfl⟩) rfl 18 rfl (by decide) (by decide) (fun H locs hP hS => ?_)
  have hD1 : va_D (fun q : Nat => s.heap.size ≤ q) (List.flatten [wT g, wS cT g 1 xNow, wV cT g 9 1 xSv, wS cT g 13 xTr, wV cT g 21 13 xTs, wH cT g 25 xHi, wS cT g 27 xR0, wS cT g 35 xR1, wS cT g 43 xR2, wS cT g 51 xR3, wS cT g 59 xR4, wS cT g 67 xR5, wX cT g 75 xTx, wI cT g 77, wK cT g 94 xKp, wS cT g 78 xI0, wS cT g 86 xI1, wM cT gm 0 u]) := va_D_adr hD (hadr (xNow, xSv, xTr, xTs, xHi, xR0, xR1, xR2, xR3, xR4, xR5, xTx, xKp, xI0, xI1) u)
  refine lv_aload_n hx hb dL_law_576 rfl (lv_at hl 2 rfl) ?_
  refine lv_aload_n hx hb dL_law_577 rfl (lv_at hl 0 rfl) ?_
  refine lv_iload_n hx hb dL_law_578 rfl (lv_at hl 3 rfl) ?_
  refine lv_iconst (v := 1) hx hb dL_law_579 (by decide) ?_
  refine lv_iadd hx hb dL_law_580 ?_
  refine va_sld hx hb hX hbl hbA hS h1 dL_law_581 ?_
  refine lv_aload_n hx hb dL_law_582 rfl (lv_at hl 0 rfl) ?_
  refine lv_iload_n hx hb dL_law_583 rfl (lv_at hl 3 rfl) ?_
  refine lv_iconst (v := 2) hx hb dL_law_584 (by decide) ?_
  refine lv_iadd hx hb dL_law_585 ?_
  refine va_sld hx hb hX hbl hbA hS h2 dL_law_586 ?_
  refine cl_iL [17] [0, 1, 2, 3, 4, 5, 6, 7, 8, 9, 10, 11, 12, 13, 14, 15, 16] [wT g, wS cT g 1 xNow, wV cT g 9 1 xSv, wS cT g 13 xTr, wV cT g 21 13 xTs, wH cT g 25 xHi, wS cT g 27 xR0, wS cT g 35 xR1, wS cT g 43 xR2, wS cT g 51 xR3, wS cT g 59 xR4, wS cT g 67 xR5, wX cT g 75 xTx, wI cT g 77, wK cT g 94 xKp, wS cT g 78 xI0, wS cT g 86 xI1, wM cT gm 0 u] hP hD1 hA hS (va_runV (As := [.int (xs (i + 1).toNatClampNeg), .int (xs (i + 2).toNatClampNeg)]) (rest := [.int o]) ⟨hx, hb, hml, hown, hts⟩ (c_X5_job l D cT gm 0 fu u (xs (i + 1).toNatClampNeg) (xs (i + 2).toNatClampNeg) o' ho' _) (cwV 2 hts (goodIn_app (goodIn_r _ [775, 776, 777, 50] (by decide +kernel) (by decide +kernel)) gl_X5_job) rfl rfl rfl (by decide +kernel) ⟨Nat.le_of_ble_eq_true rfl, Nat.le_of_ble_eq_true rfl⟩) ⟨PRE_blind, va_recv hK hP (ci := 5) (q0 := 95) rfl rfl, PRE_ok [17] (by decide) hP hD1 hA hS hK hN hZ⟩ rfl rfl hl.1 rfl (lv_room (Nat.le_of_ble_eq_true rfl)) dL_law_587 ⟨Nat.le_of_ble_eq_true rfl, Nat.le_of_ble_eq_true rfl⟩) (pick_last [wT g, wS cT g 1 xNow, wV cT g 9 1 xSv, wS cT g 13 xTr, wV cT g 21 13 xTs, wH cT g 25 xHi, wS cT g 27 xR0, wS cT g 35 xR1, wS cT g 43 xR2, wS cT g 51 xR3, wS cT g 59 xR4, wS cT g 67 xR5, wX cT g 75 xTx, wI cT g 77, wK cT g 94 xKp, wS cT g 78 xI0, wS cT g 86 xI1] (wM cT gm 0 u) (wM cT gm 0 u) [0, 1, 2, 3, 4, 5, 6, 7, 8, 9, 10, 11, 12, 13, 14, 15, 16] rfl) 18 rfl (by decide) (by decide) (fun H locs hP hS => ?_)
  refine lv_icmp_eq (tgt := 806) hx hb dL_law_590 (by decide) (fun _ => ?_) (fun h9 => absurd he h9)
  exact kk (xNow, xSv, xTr, xTs, xHi, xR0, xR1, xR2, xR3, xR4, xR5, xTx, xKp, xI0, xI1) u _ _ _ hR' hP hS hl
set_option maxHeartbeats 4000000 in
set_option maxRecDepth 100000 in
theorem lc_account {p : Program} {l : Launch} {e : Env} {s : State} {m : MethodId} {below : List Frame} {meth : Method} {c : Code} {D : va_G} {cT : Nat → ClassId} {b L : Nat} {xs : Nat → Int32} {g gm : Nat → Nat} {RR : TC → TM → Prop} {fu : Nat} {B0 : List va_W} (C0 : lw_At p s m meth c b L xs) (hK : va_K D vwCl (ty4 cT) s) (hN : NWs s) (hZ : STs (fun q : Nat => s.heap.size ≤ q) s s.heap) (hD : va_D (fun q : Nat => s.heap.size ≤ q) B0.flatten) (hadr : ∀ (C : TC) (u : TM), adr (LB cT g gm C u).flatten = adr B0.flatten) (hop : OP_account RR fu) {i : Int32} (h1 : vp_in (i + 1) L) (h2 : vp_in (i + 2) L) (h3 : vp_in (i + 3) L) (kk : ∀ (C : TC) (u : TM) (H : Heap) (locs : List Loc) (ls : Array Slot), RR C u → va_P D vwCl (LB cT g gm C u).flatten H → va_S (fun q : Nat => s.heap.size ≤ q) s.heap H locs → lv_has ls 4 [(0, .ref b), (1, .ref (g 0)), (2, .ref (gm 0)), (3, .int i)] → W p l e room_1 s m #[Value.ref b] below meth c H locs 600000 7302250 (lw_Z below #[Value.ref b] s) (F0 m 806 ls [])) {C : TC} {u : TM} {H : Heap} {locs : List Loc} {ls : Array Slot} (hR : RR C u) (hP : va_P D vwCl (LB cT g gm C u).flatten H) (hS : va_S (fun q : Nat => s.heap.size ≤ q) s.heap H locs) (hl : lv_has ls 4 [(0, .ref b), (1, .ref (g 0)), (2, .ref (gm 0)), (3, .int i)]) : W p l e room_1 s m #[Value.ref b] below meth c H locs 600000 7302250 (lw_Z below #[Value.ref b] s) (F0 m 595 ls []) := by
  obtain ⟨xNow, xSv, xTr, xTs, xHi, xR0, xR1, xR2, xR3, xR4, xR5, xTx, xKp, xI0, xI1⟩ := C
  obtain ⟨hx, hb, hr, hml, hown, hts, hX, hbl, hlocks, hgv⟩ := C0
  have hA : ∀ q : Nat, s.heap.size ≤ q → (fun q : Nat => s.heap.size ≤ q) q := fun _ h => h
  have hbA : ¬ (fun q : Nat => s.heap.size ≤ q) b := Nat.not_le.mpr hbl
  obtain ⟨o, o', ho, ho', he, hR'⟩ := hop (xNow, xSv, xTr, xTs, xHi, xR0, xR1, xR2, xR3, xR4, xR5, xTx, xKp, xI0, xI1) u (xs (i + 1).toNatClampNeg) hR
  replace ho : f_X4_account fu xNow (xs (i + 1).toNatClampNeg) = some o := ho
  replace hP : va_P D vwCl (List.flatten [wT g, wS cT g 1 xNow, wV cT g 9 1 xSv, wS cT g 13 xTr, wV cT g 21 13 xTs, wH cT g 25 xHi, wS cT g 27 xR0, wS cT g 35 xR1, wS cT g 43 xR2, wS cT g 51 xR3, wS cT g 59 xR4, wS cT g 67 xR5, wX cT g 75 xTx, wI cT g 77, wK cT g 94 xKp, wS cT g 78 xI0, wS cT g 86 xI1, wM cT gm 0 u]) H := hP
  have hD0 : va_D (fun q : Nat => s.heap.size ≤ q) (List.flatten [wT g, wS cT g 1 xNow, wV cT g 9 1 xSv, wS cT g 13 xTr, wV cT g 21 13 xTs, wH cT g 25 xHi, wS cT g 27 xR0, wS cT g 35 xR1, wS cT g 43 xR2, wS cT g 51 xR3, wS cT g 59 xR4, wS cT g 67 xR5, wX cT g 75 xTx, wI cT g 77, wK cT g 94 xKp, wS cT g 78 xI0, wS cT g 86 xI1, wM cT gm 0 u]) := va_D_adr hD (hadr (xNow, xSv, xTr, xTs, xHi, xR0, xR1, xR2, xR3, xR4, xR5, xTx, xKp, xI0, xI1) u)
  refine lv_aload_n hx hb dL_law_595 rfl (lv_at hl 1 rfl) ?_
  refine lv_aload_n hx hb dL_law_596 rfl (lv_at hl 0 rfl) ?_
  refine lv_iload_n hx hb dL_law_597 rfl (lv_at hl 3 rfl) ?_
  refine lv_iconst (v := 1) hx hb dL_law_598 (by decide) ?_
  refine lv_iadd hx hb dL_law_599 ?_
  refine va_sld hx hb hX hbl hbA hS h1 dL_law_600 ?_
  refine cl_iL [0, 1] [2, 3, 4, 5, 6, 7, 8, 9, 10, 11, 12, 13, 14, 15, 16, 17] [wT g, wS cT g 1 xNow, wV cT g 9 1 xSv, wS cT g 13 xTr, wV cT g 21 13 xTs, wH cT g 25 xHi, wS cT g 27 xR0, wS cT g 35 xR1, wS cT g 43 xR2, wS cT g 51 xR3, wS cT g 59 xR4, wS cT g 67 xR5, wX cT g 75 xTx, wI cT g 77, wK cT g 94 xKp, wS cT g 78 xI0, wS cT g 86 xI1, wM cT gm 0 u] hP hD0 hA hS (va_runV (As := [.int (xs (i + 1).toNatClampNeg)]) (rest := []) ⟨hx, hb, hml, hown, hts⟩ (c_X4_account l D cT g fu xNow (xs (i + 1).toNatClampNeg) o ho _) (cwV 1 hts (goodIn_app (goodIn_r _ [497, 498, 499, 44] (by decide +kernel) (by decide +kernel)) gl_X4_account) rfl rfl rfl (by decide +kernel) ⟨Nat.le_of_ble_eq_true rfl, Nat.le_of_ble_eq_true rfl⟩) ⟨PRE_blind, va_recv hK hP (ci := 4) (q0 := 0) rfl rfl, PRE_ok [0, 1] (by decide) hP hD0 hA hS hK hN hZ⟩ rfl rfl hl.1 rfl (lv_room (Nat.le_of_ble_eq_true rfl)) dL_law_601 ⟨Nat.le_of_ble_eq_true rfl, Nat.le_of_ble_eq_true rfl⟩) rfl 18 rfl (by decide) (by decide) (fun H locs hP hS => ?_)
  have hD1 : va_D (fun q : Nat => s.heap.size ≤ q) (List.flatten [wT g, wS cT g 1 xNow, wV cT g 9 1 xSv, wS cT g 13 xTr, wV cT g 21 13 xTs, wH cT g 25 xHi, wS cT g 27 xR0, wS cT g 35 xR1, wS cT g 43 xR2, wS cT g 51 xR3, wS cT g 59 xR4, wS cT g 67 xR5, wX cT g 75 xTx, wI cT g 77, wK cT g 94 xKp, wS cT g 78 xI0, wS cT g 86 xI1, wM cT gm 0 u]) := va_D_adr hD (hadr (xNow, xSv, xTr, xTs, xHi, xR0, xR1, xR2, xR3, xR4, xR5, xTx, xKp, xI0, xI1) u)
  refine lv_aload_n hx hb dL_law_604 rfl (lv_at hl 2 rfl) ?_
  refine lv_aload_n hx hb dL_law_605 rfl (lv_at hl 0 rfl) ?_
  refine lv_iload_n hx hb dL_law_606 rfl (lv_at hl 3 rfl) ?_
  refine lv_iconst (v := 1) hx hb dL_law_607 (by decide) ?_
  refine lv_iadd hx hb dL_law_608 ?_
  refine va_sld hx hb hX hbl hbA hS h1 dL_law_609 ?_
  refine cl_iL [17] [0, 1, 2, 3, 4, 5, 6, 7, 8, 9, 10, 11, 12, 13, 14, 15, 16] [wT g, wS cT g 1 xNow, wV cT g 9 1 xSv, wS cT g 13 xTr, wV cT g 21 13 xTs, wH cT g 25 xHi, wS cT g 27 xR0, wS cT g 35 xR1, wS cT g 43 xR2, wS cT g 51 xR3, wS cT g 59 xR4, wS cT g 67 xR5, wX cT g 75 xTx, wI cT g 77, wK cT g 94 xKp, wS cT g 78 xI0, wS cT g 86 xI1, wM cT gm 0 u] hP hD1 hA hS (va_runV (As := [.int (xs (i + 1).toNatClampNeg)]) (rest := [.int o]) ⟨hx, hb, hml, hown, hts⟩ (c_X5_account l D cT gm 0 fu u (xs (i + 1).toNatClampNeg) o' ho' _) (cwV 1 hts (goodIn_app (goodIn_r _ [780, 781, 782, 50] (by decide +kernel) (by decide +kernel)) gl_X5_account) rfl rfl rfl (by decide +kernel) ⟨Nat.le_of_ble_eq_true rfl, Nat.le_of_ble_eq_true rfl⟩) ⟨PRE_blind, va_recv hK hP (ci := 5) (q0 := 95) rfl rfl, PRE_ok [17] (by decide) hP hD1 hA hS hK hN hZ⟩ rfl rfl hl.1 rfl (lv_room (Nat.le_of_ble_eq_true rfl)) dL_law_610 ⟨Nat.le_of_ble_eq_true rfl, Nat.le_of_ble_eq_true rfl⟩) (pick_last [wT g, wS cT g 1 xNow, wV cT g 9 1 xSv, wS cT g 13 xTr, wV cT g 21 13 xTs, wH cT g 25 xHi, wS cT g 27 xR0, wS cT g 35 xR1, wS cT g 43 xR2, wS cT g 51 xR3, wS cT g 59 xR4, wS cT g 67 xR5, wX cT g 75 xTx, wI cT g 77, wK cT g 94 xKp, wS cT g 78 xI0, wS cT g 86 xI1] (wM cT gm 0 u) (wM cT gm 0 u) [0, 1, 2, 3, 4, 5, 6, 7, 8, 9, 10, 11, 12, 13, 14, 15, 16] rfl) 18 rfl (by decide) (by decide) (fun H locs hP hS => ?_)
  refine lv_icmp_eq (tgt := 806) hx hb dL_law_613 (by decide) (fun _ => ?_) (fun h9 => absurd he h9)
  exact kk (xNow, xSv, xTr, xTs, xHi, xR0, xR1, xR2, xR3, xR4, xR5, xTx, xKp, xI0, xI1) u _ _ _ hR' hP hS hl
set_option maxHeartbeats 4000000 in
set_option maxRecDepth 100000 in
theorem lc_rail {p : Program} {l : Launch} {e : Env} {s : State} {m : MethodId} {below : List Frame} {meth : Method} {c : Code} {D : va_G} {cT : Nat → ClassId} {b L : Nat} {xs : Nat → Int32} {g gm : Nat → Nat} {RR : TC → TM → Prop} {fu : Nat} {B0 : List va_W} (C0 : lw_At p s m meth c b L xs) (hK : va_K D vwCl (ty4 cT) s) (hN : NWs s) (hZ : STs (fun q : Nat => s.heap.size ≤ q) s s.heap) (hD : va_D (fun q : Nat => s.heap.size ≤ q) B0.flatten) (hadr : ∀ (C : TC) (u : TM), adr (LB cT g gm C u).flatten = adr B0.flatten) (hop : OP_rail RR fu) {i : Int32} (h1 : vp_in (i + 1) L) (h2 : vp_in (i + 2) L) (h3 : vp_in (i + 3) L) (kk : ∀ (C : TC) (u : TM) (H : Heap) (locs : List Loc) (ls : Array Slot), RR C u → va_P D vwCl (LB cT g gm C u).flatten H → va_S (fun q : Nat => s.heap.size ≤ q) s.heap H locs → lv_has ls 4 [(0, .ref b), (1, .ref (g 0)), (2, .ref (gm 0)), (3, .int i)] → W p l e room_1 s m #[Value.ref b] below meth c H locs 600000 7302250 (lw_Z below #[Value.ref b] s) (F0 m 806 ls [])) {C : TC} {u : TM} {H : Heap} {locs : List Loc} {ls : Array Slot} (hR : RR C u) (hP : va_P D vwCl (LB cT g gm C u).flatten H) (hS : va_S (fun q : Nat => s.heap.size ≤ q) s.heap H locs) (hl : lv_has ls 4 [(0, .ref b), (1, .ref (g 0)), (2, .ref (gm 0)), (3, .int i)]) : W p l e room_1 s m #[Value.ref b] below meth c H locs 600000 7302250 (lw_Z below #[Value.ref b] s) (F0 m 618 ls []) := by
  obtain ⟨xNow, xSv, xTr, xTs, xHi, xR0, xR1, xR2, xR3, xR4, xR5, xTx, xKp, xI0, xI1⟩ := C
  obtain ⟨hx, hb, hr, hml, hown, hts, hX, hbl, hlocks, hgv⟩ := C0
  have hA : ∀ q : Nat, s.heap.size ≤ q → (fun q : Nat => s.heap.size ≤ q) q := fun _ h => h
  have hbA : ¬ (fun q : Nat => s.heap.size ≤ q) b := Nat.not_le.mpr hbl
  obtain ⟨o, o', ho, ho', he, hR'⟩ := hop (xNow, xSv, xTr, xTs, xHi, xR0, xR1, xR2, xR3, xR4, xR5, xTx, xKp, xI0, xI1) u (xs (i + 1).toNatClampNeg) (xs (i + 2).toNatClampNeg) hR
  replace ho : f_X4_rail fu xNow xSv (xs (i + 1).toNatClampNeg) (xs (i + 2).toNatClampNeg) = some o := ho
  replace hP : va_P D vwCl (List.flatten [wT g, wS cT g 1 xNow, wV cT g 9 1 xSv, wS cT g 13 xTr, wV cT g 21 13 xTs, wH cT g 25 xHi, wS cT g 27 xR0, wS cT g 35 xR1, wS cT g 43 xR2, wS cT g 51 xR3, wS cT g 59 xR4, wS cT g 67 xR5, wX cT g 75 xTx, wI cT g 77, wK cT g 94 xKp, wS cT g 78 xI0, wS cT g 86 xI1, wM cT gm 0 u]) H := hP
  have hD0 : va_D (fun q : Nat => s.heap.size ≤ q) (List.flatten [wT g, wS cT g 1 xNow, wV cT g 9 1 xSv, wS cT g 13 xTr, wV cT g 21 13 xTs, wH cT g 25 xHi, wS cT g 27 xR0, wS cT g 35 xR1, wS cT g 43 xR2, wS cT g 51 xR3, wS cT g 59 xR4, wS cT g 67 xR5, wX cT g 75 xTx, wI cT g 77, wK cT g 94 xKp, wS cT g 78 xI0, wS cT g 86 xI1, wM cT gm 0 u]) := va_D_adr hD (hadr (xNow, xSv, xTr, xTs, xHi, xR0, xR1, xR2, xR3, xR4, xR5, xTx, xKp, xI0, xI1) u)
  refine lv_aload_n hx hb dL_law_618 rfl (lv_at hl 1 rfl) ?_
  refine lv_aload_n hx hb dL_law_619 rfl (lv_at hl 0 rfl) ?_
  refine lv_iload_n hx hb dL_law_620 rfl (lv_at hl 3 rfl) ?_
  refine lv_iconst (v := 1) hx hb dL_law_621 (by decide) ?_
  refine lv_iadd hx hb dL_law_622 ?_
  refine va_sld hx hb hX hbl hbA hS h1 dL_law_623 ?_
  refine lv_aload_n hx hb dL_law_624 rfl (lv_at hl 0 rfl) ?_
  refine lv_iload_n hx hb dL_law_625 rfl (lv_at hl 3 rfl) ?_
  refine lv_iconst (v := 2) hx hb dL_law_626 (by decide) ?_
  refine lv_iadd hx hb dL_law_627 ?_
  refine va_sld hx hb hX hbl hbA hS h2 dL_law_628 ?_
  refine cl_iL [0, 1, 2] [3, 4, 5, 6, 7, 8, 9, 10, 11, 12, 13, 14, 15, 16, 17] [wT g, wS cT g 1 xNow, wV cT g 9 1 o.2, wS cT g 13 xTr, wV cT g 21 13 xTs, wH cT g 25 xHi, wS cT g 27 xR0, wS cT g 35 xR1, wS cT g 43 xR2, wS cT g 51 xR3, wS cT g 59 xR4, wS cT g 67 xR5, wX cT g 75 xTx, wI cT g 77, wK cT g 94 xKp, wS cT g 78 xI0, wS cT g 86 xI1, wM cT gm 0 u] hP hD0 hA hS (va_runV (As := [.int (xs (i + 1).toNatClampNeg), .int (xs (i + 2).toNatClampNeg)]) (rest := []) ⟨hx, hb, hml, hown, hts⟩ (c_X4_rail l D cT g fu xNow xSv (xs (i + 1).toNatClampNeg) (xs (i + 2).toNatClampNeg) o ho _) (cwV 2 hts (goodIn_app (goodIn_r _ [501, 502, 503, 44] (by decide +kernel) (by decide +kernel)) gl_X4_rail) rfl rfl rfl (by decide +kernel) ⟨Nat.le_of_ble_eq_true rfl, Nat.le_of_ble_eq_true rfl⟩) ⟨PRE_blind, va_recv hK hP (ci := 4) (q0 := 0) rfl rfl, PRE_ok [0, 1, 2] (by decide) hP hD0 hA hS hK hN hZ⟩ rfl rfl hl.1 rfl (lv_room (Nat.le_of_ble_eq_true rfl)) dL_law_629 ⟨Nat.le_of_ble_eq_true rfl, Nat.le_of_ble_eq_true rfl⟩) rfl 18 rfl (by decide) (by decide) (fun H locs hP hS => ?_)
  have hD1 : va_D (fun q : Nat => s.heap.size ≤ q) (List.flatten [wT g, wS cT g 1 xNow, wV cT g 9 1 o.2, wS cT g 13 xTr, wV cT g 21 13 xTs, wH cT g 25 xHi, wS cT g 27 xR0, wS cT g 35 xR1, wS cT g 43 xR2, wS cT g 51 xR3, wS cT g 59 xR4, wS cT g 67 xR5, wX cT g 75 xTx, wI cT g 77, wK cT g 94 xKp, wS cT g 78 xI0, wS cT g 86 xI1, wM cT gm 0 u]) := va_D_adr hD (hadr (xNow, o.2, xTr, xTs, xHi, xR0, xR1, xR2, xR3, xR4, xR5, xTx, xKp, xI0, xI1) u)
  refine lv_aload_n hx hb dL_law_632 rfl (lv_at hl 2 rfl) ?_
  refine lv_aload_n hx hb dL_law_633 rfl (lv_at hl 0 rfl) ?_
  refine lv_iload_n hx hb dL_law_634 rfl (lv_at hl 3 rfl) ?_
  refine lv_iconst (v := 1) hx hb dL_law_635 (by decide) ?_
  refine lv_iadd hx hb dL_law_636 ?_
  refine va_sld hx hb hX hbl hbA hS h1 dL_law_637 ?_
  refine lv_aload_n hx hb dL_law_638 rfl (lv_at hl 0 rfl) ?_
  refine lv_iload_n hx hb dL_law_639 rfl (lv_at hl 3 rfl) ?_
  refine lv_iconst (v := 2) hx hb dL_law_640 (by decide) ?_
  refine lv_iadd hx hb dL_law_641 ?_
  refine va_sld hx hb hX hbl hbA hS h2 dL_law_642 ?_
  refine cl_iL [17] [0, 1, 2, 3, 4, 5, 6, 7, 8, 9, 10, 11, 12, 13, 14, 15, 16] [wT g, wS cT g 1 xNow, wV cT g 9 1 o.2, wS cT g 13 xTr, wV cT g 21 13 xTs, wH cT g 25 xHi, wS cT g 27 xR0, wS cT g 35 xR1, wS cT g 43 xR2, wS cT g 51 xR3, wS cT g 59 xR4, wS cT g 67 xR5, wX cT g 75 xTx, wI cT g 77, wK cT g 94 xKp, wS cT g 78 xI0, wS cT g 86 xI1, wM cT gm 0 o'.2] hP hD1 hA hS (va_runV (As := [.int (xs (i + 1).toNatClampNeg), .int (xs (i + 2).toNatClampNeg)]) (rest := [.int o.1]) ⟨hx, hb, hml, hown, hts⟩ (c_X5_rail l D cT gm 0 fu u (xs (i + 1).toNatClampNeg) (xs (i + 2).toNatClampNeg) o' ho' _) (cwV 2 hts (goodIn_app (goodIn_r _ [784, 785, 786, 50] (by decide +kernel) (by decide +kernel)) gl_X5_rail) rfl rfl rfl (by decide +kernel) ⟨Nat.le_of_ble_eq_true rfl, Nat.le_of_ble_eq_true rfl⟩) ⟨PRE_blind, va_recv hK hP (ci := 5) (q0 := 95) rfl rfl, PRE_ok [17] (by decide) hP hD1 hA hS hK hN hZ⟩ rfl rfl hl.1 rfl (lv_room (Nat.le_of_ble_eq_true rfl)) dL_law_643 ⟨Nat.le_of_ble_eq_true rfl, Nat.le_of_ble_eq_true rfl⟩) (pick_last [wT g, wS cT g 1 xNow, wV cT g 9 1 o.2, wS cT g 13 xTr, wV cT g 21 13 xTs, wH cT g 25 xHi, wS cT g 27 xR0, wS cT g 35 xR1, wS cT g 43 xR2, wS cT g 51 xR3, wS cT g 59 xR4, wS cT g 67 xR5, wX cT g 75 xTx, wI cT g 77, wK cT g 94 xKp, wS cT g 78 xI0, wS cT g 86 xI1] (wM cT gm 0 o'.2) (wM cT gm 0 u) [0, 1, 2, 3, 4, 5, 6, 7, 8, 9, 10, 11, 12, 13, 14, 15, 16] rfl) 18 rfl (by decide) (by decide) (fun H locs hP hS => ?_)
  refine lv_icmp_eq (tgt := 806) hx hb dL_law_646 (by decide) (fun _ => ?_) (fun h9 => absurd he h9)
  exact kk (xNow, o.2, xTr, xTs, xHi, xR0, xR1, xR2, xR3, xR4, xR5, xTx, xKp, xI0, xI1) o'.2 _ _ _ hR' hP hS hl
set_option maxHeartbeats 4000000 in
set_option maxRecDepth 100000 in
theorem lc_why {p : Program} {l : Launch} {e : Env} {s : State} {m : MethodId} {below : List Frame} {meth : Method} {c : Code} {D : va_G} {cT : Nat → ClassId} {b L : Nat} {xs : Nat → Int32} {g gm : Nat → Nat} {RR : TC → TM → Prop} {fu : Nat} {B0 : List va_W} (C0 : lw_At p s m meth c b L xs) (hK : va_K D vwCl (ty4 cT) s) (hN : NWs s) (hZ : STs (fun q : Nat => s.heap.size ≤ q) s s.heap) (hD : va_D (fun q : Nat => s.heap.size ≤ q) B0.flatten) (hadr : ∀ (C : TC) (u : TM), adr (LB cT g gm C u).flatten = adr B0.flatten) (hop : OP_why RR fu) {i : Int32} (h1 : vp_in (i + 1) L) (h2 : vp_in (i + 2) L) (h3 : vp_in (i + 3) L) (kk : ∀ (C : TC) (u : TM) (H : Heap) (locs : List Loc) (ls : Array Slot), RR C u → va_P D vwCl (LB cT g gm C u).flatten H → va_S (fun q : Nat => s.heap.size ≤ q) s.heap H locs → lv_has ls 4 [(0, .ref b), (1, .ref (g 0)), (2, .ref (gm 0)), (3, .int i)] → W p l e room_1 s m #[Value.ref b] below meth c H locs 600000 7302250 (lw_Z below #[Value.ref b] s) (F0 m 806 ls [])) {C : TC} {u : TM} {H : Heap} {locs : List Loc} {ls : Array Slot} (hR : RR C u) (hP : va_P D vwCl (LB cT g gm C u).flatten H) (hS : va_S (fun q : Nat => s.heap.size ≤ q) s.heap H locs) (hl : lv_has ls 4 [(0, .ref b), (1, .ref (g 0)), (2, .ref (gm 0)), (3, .int i)]) : W p l e room_1 s m #[Value.ref b] below meth c H locs 600000 7302250 (lw_Z below #[Value.ref b] s) (F0 m 651 ls []) := by
  obtain ⟨xNow, xSv, xTr, xTs, xHi, xR0, xR1, xR2, xR3, xR4, xR5, xTx, xKp, xI0, xI1⟩ := C
  obtain ⟨hx, hb, hr, hml, hown, hts, hX, hbl, hlocks, hgv⟩ := C0
  have hA : ∀ q : Nat, s.heap.size ≤ q → (fun q : Nat => s.heap.size ≤ q) q := fun _ h => h
  have hbA : ¬ (fun q : Nat => s.heap.size ≤ q) b := Nat.not_le.mpr hbl
  obtain ⟨o, o', ho, ho', he, hR'⟩ := hop (xNow, xSv, xTr, xTs, xHi, xR0, xR1, xR2, xR3, xR4, xR5, xTx, xKp, xI0, xI1) u (xs (i + 1).toNatClampNeg) hR
  replace ho : f_X4_why fu xNow xSv (xs (i + 1).toNatClampNeg) = some o := ho
  replace hP : va_P D vwCl (List.flatten [wT g, wS cT g 1 xNow, wV cT g 9 1 xSv, wS cT g 13 xTr, wV cT g 21 13 xTs, wH cT g 25 xHi, wS cT g 27 xR0, wS cT g 35 xR1, wS cT g 43 xR2, wS cT g 51 xR3, wS cT g 59 xR4, wS cT g 67 xR5, wX cT g 75 xTx, wI cT g 77, wK cT g 94 xKp, wS cT g 78 xI0, wS cT g 86 xI1, wM cT gm 0 u]) H := hP
  have hD0 : va_D (fun q : Nat => s.heap.size ≤ q) (List.flatten [wT g, wS cT g 1 xNow, wV cT g 9 1 xSv, wS cT g 13 xTr, wV cT g 21 13 xTs, wH cT g 25 xHi, wS cT g 27 xR0, wS cT g 35 xR1, wS cT g 43 xR2, wS cT g 51 xR3, wS cT g 59 xR4, wS cT g 67 xR5, wX cT g 75 xTx, wI cT g 77, wK cT g 94 xKp, wS cT g 78 xI0, wS cT g 86 xI1, wM cT gm 0 u]) := va_D_adr hD (hadr (xNow, xSv, xTr, xTs, xHi, xR0, xR1, xR2, xR3, xR4, xR5, xTx, xKp, xI0, xI1) u)
  refine lv_aload_n hx hb dL_law_651 rfl (lv_at hl 1 rfl) ?_
  refine lv_aload_n hx hb dL_law_652 rfl (lv_at hl 0 rfl) ?_
  refine lv_iload_n hx hb dL_law_653 rfl (lv_at hl 3 rfl) ?_
  refine lv_iconst (v := 1) hx hb dL_law_654 (by decide) ?_
  refine lv_iadd hx hb dL_law_655 ?_
  refine va_sld hx hb hX hbl hbA hS h1 dL_law_656 ?_
  refine cl_iL [0, 1, 2] [3, 4, 5, 6, 7, 8, 9, 10, 11, 12, 13, 14, 15, 16, 17] [wT g, wS cT g 1 xNow, wV cT g 9 1 o.2, wS cT g 13 xTr, wV cT g 21 13 xTs, wH cT g 25 xHi, wS cT g 27 xR0, wS cT g 35 xR1, wS cT g 43 xR2, wS cT g 51 xR3, wS cT g 59 xR4, wS cT g 67 xR5, wX cT g 75 xTx, wI cT g 77, wK cT g 94 xKp, wS cT g 78 xI0, wS cT g 86 xI1, wM cT gm 0 u] hP hD0 hA hS (va_runV (As := [.int (xs (i + 1).toNatClampNeg)]) (rest := []) ⟨hx, hb, hml, hown, hts⟩ (c_X4_why l D cT g fu xNow xSv (xs (i + 1).toNatClampNeg) o ho _) (cwV 1 hts (goodIn_app (goodIn_r _ [509, 510, 511, 44] (by decide +kernel) (by decide +kernel)) gl_X4_why) rfl rfl rfl (by decide +kernel) ⟨Nat.le_of_ble_eq_true rfl, Nat.le_of_ble_eq_true rfl⟩) ⟨PRE_blind, va_recv hK hP (ci := 4) (q0 := 0) rfl rfl, PRE_ok [0, 1, 2] (by decide) hP hD0 hA hS hK hN hZ⟩ rfl rfl hl.1 rfl (lv_room (Nat.le_of_ble_eq_true rfl)) dL_law_657 ⟨Nat.le_of_ble_eq_true rfl, Nat.le_of_ble_eq_true rfl⟩) rfl 18 rfl (by decide) (by decide) (fun H locs hP hS => ?_)
  have hD1 : va_D (fun q : Nat => s.heap.size ≤ q) (List.flatten [wT g, wS cT g 1 xNow, wV cT g 9 1 o.2, wS cT g 13 xTr, wV cT g 21 13 xTs, wH cT g 25 xHi, wS cT g 27 xR0, wS cT g 35 xR1, wS cT g 43 xR2, wS cT g 51 xR3, wS cT g 59 xR4, wS cT g 67 xR5, wX cT g 75 xTx, wI cT g 77, wK cT g 94 xKp, wS cT g 78 xI0, wS cT g 86 xI1, wM cT gm 0 u]) := va_D_adr hD (hadr (xNow, o.2, xTr, xTs, xHi, xR0, xR1, xR2, xR3, xR4, xR5, xTx, xKp, xI0, xI1) u)
  refine lv_aload_n hx hb dL_law_660 rfl (lv_at hl 2 rfl) ?_
  refine lv_aload_n hx hb dL_law_661 rfl (lv_at hl 0 rfl) ?_
  refine lv_iload_n hx hb dL_law_662 rfl (lv_at hl 3 rfl) ?_
  refine lv_iconst (v := 1) hx hb dL_law_663 (by decide) ?_
  refine lv_iadd hx hb dL_law_664 ?_
  refine va_sld hx hb hX hbl hbA hS h1 dL_law_665 ?_
  refine cl_iL [17] [0, 1, 2, 3, 4, 5, 6, 7, 8, 9, 10, 11, 12, 13, 14, 15, 16] [wT g, wS cT g 1 xNow, wV cT g 9 1 o.2, wS cT g 13 xTr, wV cT g 21 13 xTs, wH cT g 25 xHi, wS cT g 27 xR0, wS cT g 35 xR1, wS cT g 43 xR2, wS cT g 51 xR3, wS cT g 59 xR4, wS cT g 67 xR5, wX cT g 75 xTx, wI cT g 77, wK cT g 94 xKp, wS cT g 78 xI0, wS cT g 86 xI1, wM cT gm 0 o'.2] hP hD1 hA hS (va_runV (As := [.int (xs (i + 1).toNatClampNeg)]) (rest := [.int o.1]) ⟨hx, hb, hml, hown, hts⟩ (c_X5_why l D cT gm 0 fu u (xs (i + 1).toNatClampNeg) o' ho' _) (cwV 1 hts (goodIn_app (goodIn_r _ [788, 789, 790, 50] (by decide +kernel) (by decide +kernel)) gl_X5_why) rfl rfl rfl (by decide +kernel) ⟨Nat.le_of_ble_eq_true rfl, Nat.le_of_ble_eq_true rfl⟩) ⟨PRE_blind, va_recv hK hP (ci := 5) (q0 := 95) rfl rfl, PRE_ok [17] (by decide) hP hD1 hA hS hK hN hZ⟩ rfl rfl hl.1 rfl (lv_room (Nat.le_of_ble_eq_true rfl)) dL_law_666 ⟨Nat.le_of_ble_eq_true rfl, Nat.le_of_ble_eq_true rfl⟩) (pick_last [wT g, wS cT g 1 xNow, wV cT g 9 1 o.2, wS cT g 13 xTr, wV cT g 21 13 xTs, wH cT g 25 xHi, wS cT g 27 xR0, wS cT g 35 xR1, wS cT g 43 xR2, wS cT g 51 xR3, wS cT g 59 xR4, wS cT g 67 xR5, wX cT g 75 xTx, wI cT g 77, wK cT g 94 xKp, wS cT g 78 xI0, wS cT g 86 xI1] (wM cT gm 0 o'.2) (wM cT gm 0 u) [0, 1, 2, 3, 4, 5, 6, 7, 8, 9, 10, 11, 12, 13, 14, 15, 16] rfl) 18 rfl (by decide) (by decide) (fun H locs hP hS => ?_)
  refine lv_icmp_eq (tgt := 806) hx hb dL_law_669 (by decide) (fun _ => ?_) (fun h9 => absurd he h9)
  exact kk (xNow, o.2, xTr, xTs, xHi, xR0, xR1, xR2, xR3, xR4, xR5, xTx, xKp, xI0, xI1) o'.2 _ _ _ hR' hP hS hl
set_option maxHeartbeats 4000000 in
set_option maxRecDepth 100000 in
theorem lc_lifts {p : Program} {l : Launch} {e : Env} {s : State} {m : MethodId} {below : List Frame} {meth : Method} {c : Code} {D : va_G} {cT : Nat → ClassId} {b L : Nat} {xs : Nat → Int32} {g gm : Nat → Nat} {RR : TC → TM → Prop} {fu : Nat} {B0 : List va_W} (C0 : lw_At p s m meth c b L xs) (hK : va_K D vwCl (ty4 cT) s) (hN : NWs s) (hZ : STs (fun q : Nat => s.heap.size ≤ q) s s.heap) (hD : va_D (fun q : Nat => s.heap.size ≤ q) B0.flatten) (hadr : ∀ (C : TC) (u : TM), adr (LB cT g gm C u).flatten = adr B0.flatten) (hop : OP_lifts RR fu) {i : Int32} (h1 : vp_in (i + 1) L) (h2 : vp_in (i + 2) L) (h3 : vp_in (i + 3) L) (kk : ∀ (C : TC) (u : TM) (H : Heap) (locs : List Loc) (ls : Array Slot), RR C u → va_P D vwCl (LB cT g gm C u).flatten H → va_S (fun q : Nat => s.heap.size ≤ q) s.heap H locs → lv_has ls 4 [(0, .ref b), (1, .ref (g 0)), (2, .ref (gm 0)), (3, .int i)] → W p l e room_1 s m #[Value.ref b] below meth c H locs 600000 7302250 (lw_Z below #[Value.ref b] s) (F0 m 806 ls [])) {C : TC} {u : TM} {H : Heap} {locs : List Loc} {ls : Array Slot} (hR : RR C u) (hP : va_P D vwCl (LB cT g gm C u).flatten H) (hS : va_S (fun q : Nat => s.heap.size ≤ q) s.heap H locs) (hl : lv_has ls 4 [(0, .ref b), (1, .ref (g 0)), (2, .ref (gm 0)), (3, .int i)]) : W p l e room_1 s m #[Value.ref b] below meth c H locs 600000 7302250 (lw_Z below #[Value.ref b] s) (F0 m 674 ls []) := by
  obtain ⟨xNow, xSv, xTr, xTs, xHi, xR0, xR1, xR2, xR3, xR4, xR5, xTx, xKp, xI0, xI1⟩ := C
  obtain ⟨hx, hb, hr, hml, hown, hts, hX, hbl, hlocks, hgv⟩ := C0
  have hA : ∀ q : Nat, s.heap.size ≤ q → (fun q : Nat => s.heap.size ≤ q) q := fun _ h => h
  have hbA : ¬ (fun q : Nat => s.heap.size ≤ q) b := Nat.not_le.mpr hbl
  obtain ⟨o, o', ho, ho', he, hR'⟩ := hop (xNow, xSv, xTr, xTs, xHi, xR0, xR1, xR2, xR3, xR4, xR5, xTx, xKp, xI0, xI1) u (xs (i + 1).toNatClampNeg) (xs (i + 2).toNatClampNeg) hR
  replace ho : f_X4_lifts fu xNow (xs (i + 1).toNatClampNeg) (xs (i + 2).toNatClampNeg) = some o := ho
  replace hP : va_P D vwCl (List.flatten [wT g, wS cT g 1 xNow, wV cT g 9 1 xSv, wS cT g 13 xTr, wV cT g 21 13 xTs, wH cT g 25 xHi, wS cT g 27 xR0, wS cT g 35 xR1, wS cT g 43 xR2, wS cT g 51 xR3, wS cT g 59 xR4, wS cT g 67 xR5, wX cT g 75 xTx, wI cT g 77, wK cT g 94 xKp, wS cT g 78 xI0, wS cT g 86 xI1, wM cT gm 0 u]) H := hP
  have hD0 : va_D (fun q : Nat => s.heap.size ≤ q) (List.flatten [wT g, wS cT g 1 xNow, wV cT g 9 1 xSv, wS cT g 13 xTr, wV cT g 21 13 xTs, wH cT g 25 xHi, wS cT g 27 xR0, wS cT g 35 xR1, wS cT g 43 xR2, wS cT g 51 xR3, wS cT g 59 xR4, wS cT g 67 xR5, wX cT g 75 xTx, wI cT g 77, wK cT g 94 xKp, wS cT g 78 xI0, wS cT g 86 xI1, wM cT gm 0 u]) := va_D_adr hD (hadr (xNow, xSv, xTr, xTs, xHi, xR0, xR1, xR2, xR3, xR4, xR5, xTx, xKp, xI0, xI1) u)
  refine lv_aload_n hx hb dL_law_674 rfl (lv_at hl 1 rfl) ?_
  refine lv_aload_n hx hb dL_law_675 rfl (lv_at hl 0 rfl) ?_
  refine lv_iload_n hx hb dL_law_676 rfl (lv_at hl 3 rfl) ?_
  refine lv_iconst (v := 1) hx hb dL_law_677 (by decide) ?_
  refine lv_iadd hx hb dL_law_678 ?_
  refine va_sld hx hb hX hbl hbA hS h1 dL_law_679 ?_
  refine lv_aload_n hx hb dL_law_680 rfl (lv_at hl 0 rfl) ?_
  refine lv_iload_n hx hb dL_law_681 rfl (lv_at hl 3 rfl) ?_
  refine lv_iconst (v := 2) hx hb dL_law_682 (by decide) ?_
  refine lv_iadd hx hb dL_law_683 ?_
  refine va_sld hx hb hX hbl hbA hS h2 dL_law_684 ?_
  refine cl_iL [0, 1] [2, 3, 4, 5, 6, 7, 8, 9, 10, 11, 12, 13, 14, 15, 16, 17] [wT g, wS cT g 1 xNow, wV cT g 9 1 xSv, wS cT g 13 xTr, wV cT g 21 13 xTs, wH cT g 25 xHi, wS cT g 27 xR0, wS cT g 35 xR1, wS cT g 43 xR2, wS cT g 51 xR3, wS cT g 59 xR4, wS cT g 67 xR5, wX cT g 75 xTx, wI cT g 77, wK cT g 94 xKp, wS cT g 78 xI0, wS cT g 86 xI1, wM cT gm 0 u] hP hD0 hA hS (va_runV (As := [.int (xs (i + 1).toNatClampNeg), .int (xs (i + 2).toNatClampNeg)]) (rest := []) ⟨hx, hb, hml, hown, hts⟩ (c_X4_lifts l D cT g fu xNow (xs (i + 1).toNatClampNeg) (xs (i + 2).toNatClampNeg) o ho _) (cwV 2 hts (goodIn_app (goodIn_r _ [513, 514, 515, 44] (by decide +kernel) (by decide +kernel)) gl_X4_lifts) rfl rfl rfl (by decide +kernel) ⟨Nat.le_of_ble_eq_true rfl, Nat.le_of_ble_eq_true rfl⟩) ⟨PRE_blind, va_recv hK hP (ci := 4) (q0 := 0) rfl rfl, PRE_ok [0, 1] (by decide) hP hD0 hA hS hK hN hZ⟩ rfl rfl hl.1 rfl (lv_room (Nat.le_of_ble_eq_true rfl)) dL_law_685 ⟨Nat.le_of_ble_eq_true rfl, Nat.le_of_ble_eq_true rfl⟩) rfl 18 rfl (by decide) (by decide) (fun H locs hP hS => ?_)
  have hD1 : va_D (fun q : Nat => s.heap.size ≤ q) (List.flatten [wT g, wS cT g 1 xNow, wV cT g 9 1 xSv, wS cT g 13 xTr, wV cT g 21 13 xTs, wH cT g 25 xHi, wS cT g 27 xR0, wS cT g 35 xR1, wS cT g 43 xR2, wS cT g 51 xR3, wS cT g 59 xR4, wS cT g 67 xR5, wX cT g 75 xTx, wI cT g 77, wK cT g 94 xKp, wS cT g 78 xI0, wS cT g 86 xI1, wM cT gm 0 u]) := va_D_adr hD (hadr (xNow, xSv, xTr, xTs, xHi, xR0, xR1, xR2, xR3, xR4, xR5, xTx, xKp, xI0, xI1) u)
  refine lv_aload_n hx hb dL_law_688 rfl (lv_at hl 2 rfl) ?_
  refine lv_aload_n hx hb dL_law_689 rfl (lv_at hl 0 rfl) ?_
  refine lv_iload_n hx hb dL_law_690 rfl (lv_at hl 3 rfl) ?_
  refine lv_iconst (v := 1) hx hb dL_law_691 (by decide) ?_
  refine lv_iadd hx hb dL_law_692 ?_
  refine va_sld hx hb hX hbl hbA hS h1 dL_law_693 ?_
  refine lv_aload_n hx hb dL_law_694 rfl (lv_at hl 0 rfl) ?_
  refine lv_iload_n hx hb dL_law_695 rfl (lv_at hl 3 rfl) ?_
  refine lv_iconst (v := 2) hx hb dL_law_696 (by decide) ?_
  refine lv_iadd hx hb dL_law_697 ?_
  refine va_sld hx hb hX hbl hbA hS h2 dL_law_698 ?_
  refine cl_iL [17] [0, 1, 2, 3, 4, 5, 6, 7, 8, 9, 10, 11, 12, 13, 14, 15, 16] [wT g, wS cT g 1 xNow, wV cT g 9 1 xSv, wS cT g 13 xTr, wV cT g 21 13 xTs, wH cT g 25 xHi, wS cT g 27 xR0, wS cT g 35 xR1, wS cT g 43 xR2, wS cT g 51 xR3, wS cT g 59 xR4, wS cT g 67 xR5, wX cT g 75 xTx, wI cT g 77, wK cT g 94 xKp, wS cT g 78 xI0, wS cT g 86 xI1, wM cT gm 0 u] hP hD1 hA hS (va_runV (As := [.int (xs (i + 1).toNatClampNeg), .int (xs (i + 2).toNatClampNeg)]) (rest := [.int o]) ⟨hx, hb, hml, hown, hts⟩ (c_X5_lifts l D cT gm 0 fu u (xs (i + 1).toNatClampNeg) (xs (i + 2).toNatClampNeg) o' ho' _) (cwV 2 hts (goodIn_app (goodIn_r _ [792, 793, 794, 50] (by decide +kernel) (by decide +kernel)) gl_X5_lifts) rfl rfl rfl (by decide +kernel) ⟨Nat.le_of_ble_eq_true rfl, Nat.le_of_ble_eq_true rfl⟩) ⟨PRE_blind, va_recv hK hP (ci := 5) (q0 := 95) rfl rfl, PRE_ok [17] (by decide) hP hD1 hA hS hK hN hZ⟩ rfl rfl hl.1 rfl (lv_room (Nat.le_of_ble_eq_true rfl)) dL_law_699 ⟨Nat.le_of_ble_eq_true rfl, Nat.le_of_ble_eq_true rfl⟩) (pick_last [wT g, wS cT g 1 xNow, wV cT g 9 1 xSv, wS cT g 13 xTr, wV cT g 21 13 xTs, wH cT g 25 xHi, wS cT g 27 xR0, wS cT g 35 xR1, wS cT g 43 xR2, wS cT g 51 xR3, wS cT g 59 xR4, wS cT g 67 xR5, wX cT g 75 xTx, wI cT g 77, wK cT g 94 xKp, wS cT g 78 xI0, wS cT g 86 xI1] (wM cT gm 0 u) (wM cT gm 0 u) [0, 1, 2, 3, 4, 5, 6, 7, 8, 9, 10, 11, 12, 13, 14, 15, 16] rfl) 18 rfl (by decide) (by decide) (fun H locs hP hS => ?_)
  refine lv_icmp_eq (tgt := 806) hx hb dL_law_702 (by decide) (fun _ => ?_) (fun h9 => absurd he h9)
  exact kk (xNow, xSv, xTr, xTs, xHi, xR0, xR1, xR2, xR3, xR4, xR5, xTx, xKp, xI0, xI1) u _ _ _ hR' hP hS hl
set_option maxHeartbeats 4000000 in
set_option maxRecDepth 100000 in
theorem lc_trainsUntil {p : Program} {l : Launch} {e : Env} {s : State} {m : MethodId} {below : List Frame} {meth : Method} {c : Code} {D : va_G} {cT : Nat → ClassId} {b L : Nat} {xs : Nat → Int32} {g gm : Nat → Nat} {RR : TC → TM → Prop} {fu : Nat} {B0 : List va_W} (C0 : lw_At p s m meth c b L xs) (hK : va_K D vwCl (ty4 cT) s) (hN : NWs s) (hZ : STs (fun q : Nat => s.heap.size ≤ q) s s.heap) (hD : va_D (fun q : Nat => s.heap.size ≤ q) B0.flatten) (hadr : ∀ (C : TC) (u : TM), adr (LB cT g gm C u).flatten = adr B0.flatten) (hop : OP_trainsUntil RR fu) {i : Int32} (h1 : vp_in (i + 1) L) (h2 : vp_in (i + 2) L) (h3 : vp_in (i + 3) L) (kk : ∀ (C : TC) (u : TM) (H : Heap) (locs : List Loc) (ls : Array Slot), RR C u → va_P D vwCl (LB cT g gm C u).flatten H → va_S (fun q : Nat => s.heap.size ≤ q) s.heap H locs → lv_has ls 4 [(0, .ref b), (1, .ref (g 0)), (2, .ref (gm 0)), (3, .int i)] → W p l e room_1 s m #[Value.ref b] below meth c H locs 600000 7302250 (lw_Z below #[Value.ref b] s) (F0 m 806 ls [])) {C : TC} {u : TM} {H : Heap} {locs : List Loc} {ls : Array Slot} (hR : RR C u) (hP : va_P D vwCl (LB cT g gm C u).flatten H) (hS : va_S (fun q : Nat => s.heap.size ≤ q) s.heap H locs) (hl : lv_has ls 4 [(0, .ref b), (1, .ref (g 0)), (2, .ref (gm 0)), (3, .int i)]) : W p l e room_1 s m #[Value.ref b] below meth c H locs 600000 7302250 (lw_Z below #[Value.ref b] s) (F0 m 707 ls []) := by
  obtain ⟨xNow, xSv, xTr, xTs, xHi, xR0, xR1, xR2, xR3, xR4, xR5, xTx, xKp, xI0, xI1⟩ := C
  obtain ⟨hx, hb, hr, hml, hown, hts, hX, hbl, hlocks, hgv⟩ := C0
  have hA : ∀ q : Nat, s.heap.size ≤ q → (fun q : Nat => s.heap.size ≤ q) q := fun _ h => h
  have hbA : ¬ (fun q : Nat => s.heap.size ≤ q) b := Nat.not_le.mpr hbl
  obtain ⟨o, o', ho, ho', he, hR'⟩ := hop (xNow, xSv, xTr, xTs, xHi, xR0, xR1, xR2, xR3, xR4, xR5, xTx, xKp, xI0, xI1) u (xs (i + 1).toNatClampNeg) (xs (i + 2).toNatClampNeg) (xs (i + 3).toNatClampNeg) hR
  replace ho : f_X4_trainsUntil fu xNow xTr xTs (xs (i + 1).toNatClampNeg) (xs (i + 2).toNatClampNeg) (xs (i + 3).toNatClampNeg) = some o := ho
  replace hP : va_P D vwCl (List.flatten [wT g, wS cT g 1 xNow, wV cT g 9 1 xSv, wS cT g 13 xTr, wV cT g 21 13 xTs, wH cT g 25 xHi, wS cT g 27 xR0, wS cT g 35 xR1, wS cT g 43 xR2, wS cT g 51 xR3, wS cT g 59 xR4, wS cT g 67 xR5, wX cT g 75 xTx, wI cT g 77, wK cT g 94 xKp, wS cT g 78 xI0, wS cT g 86 xI1, wM cT gm 0 u]) H := hP
  have hD0 : va_D (fun q : Nat => s.heap.size ≤ q) (List.flatten [wT g, wS cT g 1 xNow, wV cT g 9 1 xSv, wS cT g 13 xTr, wV cT g 21 13 xTs, wH cT g 25 xHi, wS cT g 27 xR0, wS cT g 35 xR1, wS cT g 43 xR2, wS cT g 51 xR3, wS cT g 59 xR4, wS cT g 67 xR5, wX cT g 75 xTx, wI cT g 77, wK cT g 94 xKp, wS cT g 78 xI0, wS cT g 86 xI1, wM cT gm 0 u]) := va_D_adr hD (hadr (xNow, xSv, xTr, xTs, xHi, xR0, xR1, xR2, xR3, xR4, xR5, xTx, xKp, xI0, xI1) u)
  refine lv_aload_n hx hb dL_law_707 rfl (lv_at hl 1 rfl) ?_
  refine lv_aload_n hx hb dL_law_708 rfl (lv_at hl 0 rfl) ?_
  refine lv_iload_n hx hb dL_law_709 rfl (lv_at hl 3 rfl) ?_
  refine lv_iconst (v := 1) hx hb dL_law_710 (by decide) ?_
  refine lv_iadd hx hb dL_law_711 ?_
  refine va_sld hx hb hX hbl hbA hS h1 dL_law_712 ?_
  refine lv_aload_n hx hb dL_law_713 rfl (lv_at hl 0 rfl) ?_
  refine lv_iload_n hx hb dL_law_714 rfl (lv_at hl 3 rfl) ?_
  refine lv_iconst (v := 2) hx hb dL_law_715 (by decide) ?_
  refine lv_iadd hx hb dL_law_716 ?_
  refine va_sld hx hb hX hbl hbA hS h2 dL_law_717 ?_
  refine lv_aload_n hx hb dL_law_718 rfl (lv_at hl 0 rfl) ?_
  refine lv_iload_n hx hb dL_law_719 rfl (lv_at hl 3 rfl) ?_
  refine lv_iconst (v := 3) hx hb dL_law_720 (by decide) ?_
  refine lv_iadd hx hb dL_law_721 ?_
  refine va_sld hx hb hX hbl hbA hS h3 dL_law_722 ?_
  refine cl_iL [0, 1, 3, 4] [2, 5, 6, 7, 8, 9, 10, 11, 12, 13, 14, 15, 16, 17] [wT g, wS cT g 1 xNow, wV cT g 9 1 xSv, wS cT g 13 o.2.1, wV cT g 21 13 o.2.2, wH cT g 25 xHi, wS cT g 27 xR0, wS cT g 35 xR1, wS cT g 43 xR2, wS cT g 51 xR3, wS cT g 59 xR4, wS cT g 67 xR5, wX cT g 75 xTx, wI cT g 77, wK cT g 94 xKp, wS cT g 78 xI0, wS cT g 86 xI1, wM cT gm 0 u] hP hD0 hA hS (va_runV (As := [.int (xs (i + 1).toNatClampNeg), .int (xs (i + 2).toNatClampNeg), .int (xs (i + 3).toNatClampNeg)]) (rest := []) ⟨hx, hb, hml, hown, hts⟩ (c_X4_trainsUntil l D cT g fu xNow xTr xTs (xs (i + 1).toNatClampNeg) (xs (i + 2).toNatClampNeg) (xs (i + 3).toNatClampNeg) o ho _) (cwV 3 hts (goodIn_app (goodIn_r _ [518, 519, 520, 44] (by decide +kernel) (by decide +kernel)) gl_X4_trainsUntil) rfl rfl rfl (by decide +kernel) ⟨Nat.le_of_ble_eq_true rfl, Nat.le_of_ble_eq_true rfl⟩) ⟨PRE_blind, va_recv hK hP (ci := 4) (q0 := 0) rfl rfl, PRE_ok [0, 1, 3, 4] (by decide) hP hD0 hA hS hK hN hZ⟩ rfl rfl hl.1 rfl (lv_room (Nat.le_of_ble_eq_true rfl)) dL_law_723 ⟨Nat.le_of_ble_eq_true rfl, Nat.le_of_ble_eq_true rfl⟩) rfl 18 rfl (by decide) (by decide) (fun H locs hP hS => ?_)
  have hD1 : va_D (fun q : Nat => s.heap.size ≤ q) (List.flatten [wT g, wS cT g 1 xNow, wV cT g 9 1 xSv, wS cT g 13 o.2.1, wV cT g 21 13 o.2.2, wH cT g 25 xHi, wS cT g 27 xR0, wS cT g 35 xR1, wS cT g 43 xR2, wS cT g 51 xR3, wS cT g 59 xR4, wS cT g 67 xR5, wX cT g 75 xTx, wI cT g 77, wK cT g 94 xKp, wS cT g 78 xI0, wS cT g 86 xI1, wM cT gm 0 u]) := va_D_adr hD (hadr (xNow, xSv, o.2.1, o.2.2, xHi, xR0, xR1, xR2, xR3, xR4, xR5, xTx, xKp, xI0, xI1) u)
  refine lv_aload_n hx hb dL_law_726 rfl (lv_at hl 2 rfl) ?_
  refine lv_aload_n hx hb dL_law_727 rfl (lv_at hl 0 rfl) ?_
  refine lv_iload_n hx hb dL_law_728 rfl (lv_at hl 3 rfl) ?_
  refine lv_iconst (v := 1) hx hb dL_law_729 (by decide) ?_
  refine lv_iadd hx hb dL_law_730 ?_
  refine va_sld hx hb hX hbl hbA hS h1 dL_law_731 ?_
  refine lv_aload_n hx hb dL_law_732 rfl (lv_at hl 0 rfl) ?_
  refine lv_iload_n hx hb dL_law_733 rfl (lv_at hl 3 rfl) ?_
  refine lv_iconst (v := 2) hx hb dL_law_734 (by decide) ?_
  refine lv_iadd hx hb dL_law_735 ?_
  refine va_sld hx hb hX hbl hbA hS h2 dL_law_736 ?_
  refine lv_aload_n hx hb dL_law_737 rfl (lv_at hl 0 rfl) ?_
  refine lv_iload_n hx hb dL_law_738 rfl (lv_at hl 3 rfl) ?_
  refine lv_iconst (v := 3) hx hb dL_law_739 (by decide) ?_
  refine lv_iadd hx hb dL_law_740 ?_
  refine va_sld hx hb hX hbl hbA hS h3 dL_law_741 ?_
  refine cl_iL [17] [0, 1, 2, 3, 4, 5, 6, 7, 8, 9, 10, 11, 12, 13, 14, 15, 16] [wT g, wS cT g 1 xNow, wV cT g 9 1 xSv, wS cT g 13 o.2.1, wV cT g 21 13 o.2.2, wH cT g 25 xHi, wS cT g 27 xR0, wS cT g 35 xR1, wS cT g 43 xR2, wS cT g 51 xR3, wS cT g 59 xR4, wS cT g 67 xR5, wX cT g 75 xTx, wI cT g 77, wK cT g 94 xKp, wS cT g 78 xI0, wS cT g 86 xI1, wM cT gm 0 o'.2] hP hD1 hA hS (va_runV (As := [.int (xs (i + 1).toNatClampNeg), .int (xs (i + 2).toNatClampNeg), .int (xs (i + 3).toNatClampNeg)]) (rest := [.int o.1]) ⟨hx, hb, hml, hown, hts⟩ (c_X5_trainsUntil l D cT gm 0 fu u (xs (i + 1).toNatClampNeg) (xs (i + 2).toNatClampNeg) (xs (i + 3).toNatClampNeg) o' ho' _) (cwV 3 hts (goodIn_app (goodIn_r _ [796, 797, 798, 50] (by decide +kernel) (by decide +kernel)) gl_X5_trainsUntil) rfl rfl rfl (by decide +kernel) ⟨Nat.le_of_ble_eq_true rfl, Nat.le_of_ble_eq_true rfl⟩) ⟨PRE_blind, va_recv hK hP (ci := 5) (q0 := 95) rfl rfl, PRE_ok [17] (by decide) hP hD1 hA hS hK hN hZ⟩ rfl rfl hl.1 rfl (lv_room (Nat.le_of_ble_eq_true rfl)) dL_law_742 ⟨Nat.le_of_ble_eq_true rfl, Nat.le_of_ble_eq_true rfl⟩) (pick_last [wT g, wS cT g 1 xNow, wV cT g 9 1 xSv, wS cT g 13 o.2.1, wV cT g 21 13 o.2.2, wH cT g 25 xHi, wS cT g 27 xR0, wS cT g 35 xR1, wS cT g 43 xR2, wS cT g 51 xR3, wS cT g 59 xR4, wS cT g 67 xR5, wX cT g 75 xTx, wI cT g 77, wK cT g 94 xKp, wS cT g 78 xI0, wS cT g 86 xI1] (wM cT gm 0 o'.2) (wM cT gm 0 u) [0, 1, 2, 3, 4, 5, 6, 7, 8, 9, 10, 11, 12, 13, 14, 15, 16] rfl) 18 rfl (by decide) (by decide) (fun H locs hP hS => ?_)
  refine lv_icmp_eq (tgt := 806) hx hb dL_law_745 (by decide) (fun _ => ?_) (fun h9 => absurd he h9)
  exact kk (xNow, xSv, o.2.1, o.2.2, xHi, xR0, xR1, xR2, xR3, xR4, xR5, xTx, xKp, xI0, xI1) o'.2 _ _ _ hR' hP hS hl
set_option maxHeartbeats 4000000 in
set_option maxRecDepth 100000 in
theorem lc_bestRow {p : Program} {l : Launch} {e : Env} {s : State} {m : MethodId} {below : List Frame} {meth : Method} {c : Code} {D : va_G} {cT : Nat → ClassId} {b L : Nat} {xs : Nat → Int32} {g gm : Nat → Nat} {RR : TC → TM → Prop} {fu : Nat} {B0 : List va_W} (C0 : lw_At p s m meth c b L xs) (hK : va_K D vwCl (ty4 cT) s) (hN : NWs s) (hZ : STs (fun q : Nat => s.heap.size ≤ q) s s.heap) (hD : va_D (fun q : Nat => s.heap.size ≤ q) B0.flatten) (hadr : ∀ (C : TC) (u : TM), adr (LB cT g gm C u).flatten = adr B0.flatten) (hop : OP_bestRow RR fu) {i : Int32} (h1 : vp_in (i + 1) L) (h2 : vp_in (i + 2) L) (h3 : vp_in (i + 3) L) (kk : ∀ (C : TC) (u : TM) (H : Heap) (locs : List Loc) (ls : Array Slot), RR C u → va_P D vwCl (LB cT g gm C u).flatten H → va_S (fun q : Nat => s.heap.size ≤ q) s.heap H locs → lv_has ls 4 [(0, .ref b), (1, .ref (g 0)), (2, .ref (gm 0)), (3, .int i)] → W p l e room_1 s m #[Value.ref b] below meth c H locs 600000 7302250 (lw_Z below #[Value.ref b] s) (F0 m 806 ls [])) {C : TC} {u : TM} {H : Heap} {locs : List Loc} {ls : Array Slot} (hR : RR C u) (hP : va_P D vwCl (LB cT g gm C u).flatten H) (hS : va_S (fun q : Nat => s.heap.size ≤ q) s.heap H locs) (hl : lv_has ls 4 [(0, .ref b), (1, .ref (g 0)), (2, .ref (gm 0)), (3, .int i)]) : W p l e room_1 s m #[Value.ref b] below meth c H locs 600000 7302250 (lw_Z below #[Value.ref b] s) (F0 m 750 ls []) := by
  obtain ⟨xNow, xSv, xTr, xTs, xHi, xR0, xR1, xR2, xR3, xR4, xR5, xTx, xKp, xI0, xI1⟩ := C
  obtain ⟨hx, hb, hr, hml, hown, hts, hX, hbl, hlocks, hgv⟩ := C0
  have hA : ∀ q : Nat, s.heap.size ≤ q → (fun q : Nat => s.heap.size ≤ q) q := fun _ h => h
  have hbA : ¬ (fun q : Nat => s.heap.size ≤ q) b := Nat.not_le.mpr hbl
  obtain ⟨o, o', ho, ho', he, hR'⟩ := hop (xNow, xSv, xTr, xTs, xHi, xR0, xR1, xR2, xR3, xR4, xR5, xTx, xKp, xI0, xI1) u (xs (i + 1).toNatClampNeg) (xs (i + 2).toNatClampNeg) (xs (i + 3).toNatClampNeg) hR
  replace ho : f_X4_bestRow fu xNow xTr xTs (xs (i + 1).toNatClampNeg) (xs (i + 2).toNatClampNeg) (xs (i + 3).toNatClampNeg) = some o := ho
  replace hP : va_P D vwCl (List.flatten [wT g, wS cT g 1 xNow, wV cT g 9 1 xSv, wS cT g 13 xTr, wV cT g 21 13 xTs, wH cT g 25 xHi, wS cT g 27 xR0, wS cT g 35 xR1, wS cT g 43 xR2, wS cT g 51 xR3, wS cT g 59 xR4, wS cT g 67 xR5, wX cT g 75 xTx, wI cT g 77, wK cT g 94 xKp, wS cT g 78 xI0, wS cT g 86 xI1, wM cT gm 0 u]) H := hP
  have hD0 : va_D (fun q : Nat => s.heap.size ≤ q) (List.flatten [wT g, wS cT g 1 xNow, wV cT g 9 1 xSv, wS cT g 13 xTr, wV cT g 21 13 xTs, wH cT g 25 xHi, wS cT g 27 xR0, wS cT g 35 xR1, wS cT g 43 xR2, wS cT g 51 xR3, wS cT g 59 xR4, wS cT g 67 xR5, wX cT g 75 xTx, wI cT g 77, wK cT g 94 xKp, wS cT g 78 xI0, wS cT g 86 xI1, wM cT gm 0 u]) := va_D_adr hD (hadr (xNow, xSv, xTr, xTs, xHi, xR0, xR1, xR2, xR3, xR4, xR5, xTx, xKp, xI0, xI1) u)
  refine lv_aload_n hx hb dL_law_750 rfl (lv_at hl 1 rfl) ?_
  refine lv_aload_n hx hb dL_law_751 rfl (lv_at hl 0 rfl) ?_
  refine lv_iload_n hx hb dL_law_752 rfl (lv_at hl 3 rfl) ?_
  refine lv_iconst (v := 1) hx hb dL_law_753 (by decide) ?_
  refine lv_iadd hx hb dL_law_754 ?_
  refine va_sld hx hb hX hbl hbA hS h1 dL_law_755 ?_
  refine lv_aload_n hx hb dL_law_756 rfl (lv_at hl 0 rfl) ?_
  refine lv_iload_n hx hb dL_law_757 rfl (lv_at hl 3 rfl) ?_
  refine lv_iconst (v := 2) hx hb dL_law_758 (by decide) ?_
  refine lv_iadd hx hb dL_law_759 ?_
  refine va_sld hx hb hX hbl hbA hS h2 dL_law_760 ?_
  refine lv_aload_n hx hb dL_law_761 rfl (lv_at hl 0 rfl) ?_
  refine lv_iload_n hx hb dL_law_762 rfl (lv_at hl 3 rfl) ?_
  refine lv_iconst (v := 3) hx hb dL_law_763 (by decide) ?_
  refine lv_iadd hx hb dL_law_764 ?_
  refine va_sld hx hb hX hbl hbA hS h3 dL_law_765 ?_
  refine cl_iL [0, 1, 3, 4] [2, 5, 6, 7, 8, 9, 10, 11, 12, 13, 14, 15, 16, 17] [wT g, wS cT g 1 xNow, wV cT g 9 1 xSv, wS cT g 13 o.2.1, wV cT g 21 13 o.2.2, wH cT g 25 xHi, wS cT g 27 xR0, wS cT g 35 xR1, wS cT g 43 xR2, wS cT g 51 xR3, wS cT g 59 xR4, wS cT g 67 xR5, wX cT g 75 xTx, wI cT g 77, wK cT g 94 xKp, wS cT g 78 xI0, wS cT g 86 xI1, wM cT gm 0 u] hP hD0 hA hS (va_runV (As := [.int (xs (i + 1).toNatClampNeg), .int (xs (i + 2).toNatClampNeg), .int (xs (i + 3).toNatClampNeg)]) (rest := []) ⟨hx, hb, hml, hown, hts⟩ (c_X4_bestRow l D cT g fu xNow xTr xTs (xs (i + 1).toNatClampNeg) (xs (i + 2).toNatClampNeg) (xs (i + 3).toNatClampNeg) o ho _) (cwV 3 hts (goodIn_app (goodIn_r _ [522, 523, 524, 44] (by decide +kernel) (by decide +kernel)) gl_X4_bestRow) rfl rfl rfl (by decide +kernel) ⟨Nat.le_of_ble_eq_true rfl, Nat.le_of_ble_eq_true rfl⟩) ⟨PRE_blind, va_recv hK hP (ci := 4) (q0 := 0) rfl rfl, PRE_ok [0, 1, 3, 4] (by decide) hP hD0 hA hS hK hN hZ⟩ rfl rfl hl.1 rfl (lv_room (Nat.le_of_ble_eq_true rfl)) dL_law_766 ⟨Nat.le_of_ble_eq_true rfl, Nat.le_of_ble_eq_true rfl⟩) rfl 18 rfl (by decide) (by decide) (fun H locs hP hS => ?_)
  have hD1 : va_D (fun q : Nat => s.heap.size ≤ q) (List.flatten [wT g, wS cT g 1 xNow, wV cT g 9 1 xSv, wS cT g 13 o.2.1, wV cT g 21 13 o.2.2, wH cT g 25 xHi, wS cT g 27 xR0, wS cT g 35 xR1, wS cT g 43 xR2, wS cT g 51 xR3, wS cT g 59 xR4, wS cT g 67 xR5, wX cT g 75 xTx, wI cT g 77, wK cT g 94 xKp, wS cT g 78 xI0, wS cT g 86 xI1, wM cT gm 0 u]) := va_D_adr hD (hadr (xNow, xSv, o.2.1, o.2.2, xHi, xR0, xR1, xR2, xR3, xR4, xR5, xTx, xKp, xI0, xI1) u)
  refine lv_aload_n hx hb dL_law_769 rfl (lv_at hl 2 rfl) ?_
  refine lv_aload_n hx hb dL_law_770 rfl (lv_at hl 0 rfl) ?_
  refine lv_iload_n hx hb dL_law_771 rfl (lv_at hl 3 rfl) ?_
  refine lv_iconst (v := 1) hx hb dL_law_772 (by decide) ?_
  refine lv_iadd hx hb dL_law_773 ?_
  refine va_sld hx hb hX hbl hbA hS h1 dL_law_774 ?_
  refine lv_aload_n hx hb dL_law_775 rfl (lv_at hl 0 rfl) ?_
  refine lv_iload_n hx hb dL_law_776 rfl (lv_at hl 3 rfl) ?_
  refine lv_iconst (v := 2) hx hb dL_law_777 (by decide) ?_
  refine lv_iadd hx hb dL_law_778 ?_
  refine va_sld hx hb hX hbl hbA hS h2 dL_law_779 ?_
  refine lv_aload_n hx hb dL_law_780 rfl (lv_at hl 0 rfl) ?_
  refine lv_iload_n hx hb dL_law_781 rfl (lv_at hl 3 rfl) ?_
  refine lv_iconst (v := 3) hx hb dL_law_782 (by decide) ?_
  refine lv_iadd hx hb dL_law_783 ?_
  refine va_sld hx hb hX hbl hbA hS h3 dL_law_784 ?_
  refine cl_iL [17] [0, 1, 2, 3, 4, 5, 6, 7, 8, 9, 10, 11, 12, 13, 14, 15, 16] [wT g, wS cT g 1 xNow, wV cT g 9 1 xSv, wS cT g 13 o.2.1, wV cT g 21 13 o.2.2, wH cT g 25 xHi, wS cT g 27 xR0, wS cT g 35 xR1, wS cT g 43 xR2, wS cT g 51 xR3, wS cT g 59 xR4, wS cT g 67 xR5, wX cT g 75 xTx, wI cT g 77, wK cT g 94 xKp, wS cT g 78 xI0, wS cT g 86 xI1, wM cT gm 0 o'.2] hP hD1 hA hS (va_runV (As := [.int (xs (i + 1).toNatClampNeg), .int (xs (i + 2).toNatClampNeg), .int (xs (i + 3).toNatClampNeg)]) (rest := [.int o.1]) ⟨hx, hb, hml, hown, hts⟩ (c_X5_bestRow l D cT gm 0 fu u (xs (i + 1).toNatClampNeg) (xs (i + 2).toNatClampNeg) (xs (i + 3).toNatClampNeg) o' ho' _) (cwV 3 hts (goodIn_app (goodIn_r _ [800, 801, 802, 50] (by decide +kernel) (by decide +kernel)) gl_X5_bestRow) rfl rfl rfl (by decide +kernel) ⟨Nat.le_of_ble_eq_true rfl, Nat.le_of_ble_eq_true rfl⟩) ⟨PRE_blind, va_recv hK hP (ci := 5) (q0 := 95) rfl rfl, PRE_ok [17] (by decide) hP hD1 hA hS hK hN hZ⟩ rfl rfl hl.1 rfl (lv_room (Nat.le_of_ble_eq_true rfl)) dL_law_785 ⟨Nat.le_of_ble_eq_true rfl, Nat.le_of_ble_eq_true rfl⟩) (pick_last [wT g, wS cT g 1 xNow, wV cT g 9 1 xSv, wS cT g 13 o.2.1, wV cT g 21 13 o.2.2, wH cT g 25 xHi, wS cT g 27 xR0, wS cT g 35 xR1, wS cT g 43 xR2, wS cT g 51 xR3, wS cT g 59 xR4, wS cT g 67 xR5, wX cT g 75 xTx, wI cT g 77, wK cT g 94 xKp, wS cT g 78 xI0, wS cT g 86 xI1] (wM cT gm 0 o'.2) (wM cT gm 0 u) [0, 1, 2, 3, 4, 5, 6, 7, 8, 9, 10, 11, 12, 13, 14, 15, 16] rfl) 18 rfl (by decide) (by decide) (fun H locs hP hS => ?_)
  refine lv_icmp_eq (tgt := 806) hx hb dL_law_788 (by decide) (fun _ => ?_) (fun h9 => absurd he h9)
  exact kk (xNow, xSv, o.2.1, o.2.2, xHi, xR0, xR1, xR2, xR3, xR4, xR5, xTx, xKp, xI0, xI1) o'.2 _ _ _ hR' hP hS hl
set_option maxHeartbeats 4000000 in
set_option maxRecDepth 100000 in
theorem lc_minutesLeft {p : Program} {l : Launch} {e : Env} {s : State} {m : MethodId} {below : List Frame} {meth : Method} {c : Code} {D : va_G} {cT : Nat → ClassId} {b L : Nat} {xs : Nat → Int32} {g gm : Nat → Nat} {RR : TC → TM → Prop} {fu : Nat} {B0 : List va_W} (C0 : lw_At p s m meth c b L xs) (hK : va_K D vwCl (ty4 cT) s) (hN : NWs s) (hZ : STs (fun q : Nat => s.heap.size ≤ q) s s.heap) (hD : va_D (fun q : Nat => s.heap.size ≤ q) B0.flatten) (hadr : ∀ (C : TC) (u : TM), adr (LB cT g gm C u).flatten = adr B0.flatten) (hop : OP_minutesLeft RR fu) {i : Int32} (h1 : vp_in (i + 1) L) (h2 : vp_in (i + 2) L) (h3 : vp_in (i + 3) L) (kk : ∀ (C : TC) (u : TM) (H : Heap) (locs : List Loc) (ls : Array Slot), RR C u → va_P D vwCl (LB cT g gm C u).flatten H → va_S (fun q : Nat => s.heap.size ≤ q) s.heap H locs → lv_has ls 4 [(0, .ref b), (1, .ref (g 0)), (2, .ref (gm 0)), (3, .int i)] → W p l e room_1 s m #[Value.ref b] below meth c H locs 600000 7302250 (lw_Z below #[Value.ref b] s) (F0 m 806 ls [])) {C : TC} {u : TM} {H : Heap} {locs : List Loc} {ls : Array Slot} (hR : RR C u) (hP : va_P D vwCl (LB cT g gm C u).flatten H) (hS : va_S (fun q : Nat => s.heap.size ≤ q) s.heap H locs) (hl : lv_has ls 4 [(0, .ref b), (1, .ref (g 0)), (2, .ref (gm 0)), (3, .int i)]) : W p l e room_1 s m #[Value.ref b] below meth c H locs 600000 7302250 (lw_Z below #[Value.ref b] s) (F0 m 793 ls []) := by
  obtain ⟨xNow, xSv, xTr, xTs, xHi, xR0, xR1, xR2, xR3, xR4, xR5, xTx, xKp, xI0, xI1⟩ := C
  obtain ⟨hx, hb, hr, hml, hown, hts, hX, hbl, hlocks, hgv⟩ := C0
  have hA : ∀ q : Nat, s.heap.size ≤ q → (fun q : Nat => s.heap.size ≤ q) q := fun _ h => h
  have hbA : ¬ (fun q : Nat => s.heap.size ≤ q) b := Nat.not_le.mpr hbl
  obtain ⟨o, o', ho, ho', he, hR'⟩ := hop (xNow, xSv, xTr, xTs, xHi, xR0, xR1, xR2, xR3, xR4, xR5, xTx, xKp, xI0, xI1) u  hR
  replace ho : f_X4_minutesLeft fu xNow xTr  = some o := ho
  replace hP : va_P D vwCl (List.flatten [wT g, wS cT g 1 xNow, wV cT g 9 1 xSv, wS cT g 13 xTr, wV cT g 21 13 xTs, wH cT g 25 xHi, wS cT g 27 xR0, wS cT g 35 xR1, wS cT g 43 xR2, wS cT g 51 xR3, wS cT g 59 xR4, wS cT g 67 xR5, wX cT g 75 xTx, wI cT g 77, wK cT g 94 xKp, wS cT g 78 xI0, wS cT g 86 xI1, wM cT gm 0 u]) H := hP
  have hD0 : va_D (fun q : Nat => s.heap.size ≤ q) (List.flatten [wT g, wS cT g 1 xNow, wV cT g 9 1 xSv, wS cT g 13 xTr, wV cT g 21 13 xTs, wH cT g 25 xHi, wS cT g 27 xR0, wS cT g 35 xR1, wS cT g 43 xR2, wS cT g 51 xR3, wS cT g 59 xR4, wS cT g 67 xR5, wX cT g 75 xTx, wI cT g 77, wK cT g 94 xKp, wS cT g 78 xI0, wS cT g 86 xI1, wM cT gm 0 u]) := va_D_adr hD (hadr (xNow, xSv, xTr, xTs, xHi, xR0, xR1, xR2, xR3, xR4, xR5, xTx, xKp, xI0, xI1) u)
  refine lv_aload_n hx hb dL_law_793 rfl (lv_at hl 1 rfl) ?_
  refine cl_iL [0, 1, 3] [2, 4, 5, 6, 7, 8, 9, 10, 11, 12, 13, 14, 15, 16, 17] [wT g, wS cT g 1 xNow, wV cT g 9 1 xSv, wS cT g 13 o.2, wV cT g 21 13 xTs, wH cT g 25 xHi, wS cT g 27 xR0, wS cT g 35 xR1, wS cT g 43 xR2, wS cT g 51 xR3, wS cT g 59 xR4, wS cT g 67 xR5, wX cT g 75 xTx, wI cT g 77, wK cT g 94 xKp, wS cT g 78 xI0, wS cT g 86 xI1, wM cT gm 0 u] hP hD0 hA hS (va_runV (As := []) (rest := []) ⟨hx, hb, hml, hown, hts⟩ (c_X4_minutesLeft l D cT g fu xNow xTr  o ho _) (cwV 0 hts (goodIn_app (goodIn_r _ [532, 533, 534, 44] (by decide +kernel) (by decide +kernel)) gl_X4_minutesLeft) rfl rfl rfl (by decide +kernel) ⟨Nat.le_of_ble_eq_true rfl, Nat.le_of_ble_eq_true rfl⟩) ⟨PRE_blind, va_recv hK hP (ci := 4) (q0 := 0) rfl rfl, PRE_ok [0, 1, 3] (by decide) hP hD0 hA hS hK hN hZ⟩ rfl rfl hl.1 rfl (lv_room (Nat.le_of_ble_eq_true rfl)) dL_law_794 ⟨Nat.le_of_ble_eq_true rfl, Nat.le_of_ble_eq_true rfl⟩) rfl 18 rfl (by decide) (by decide) (fun H locs hP hS => ?_)
  have hD1 : va_D (fun q : Nat => s.heap.size ≤ q) (List.flatten [wT g, wS cT g 1 xNow, wV cT g 9 1 xSv, wS cT g 13 o.2, wV cT g 21 13 xTs, wH cT g 25 xHi, wS cT g 27 xR0, wS cT g 35 xR1, wS cT g 43 xR2, wS cT g 51 xR3, wS cT g 59 xR4, wS cT g 67 xR5, wX cT g 75 xTx, wI cT g 77, wK cT g 94 xKp, wS cT g 78 xI0, wS cT g 86 xI1, wM cT gm 0 u]) := va_D_adr hD (hadr (xNow, xSv, o.2, xTs, xHi, xR0, xR1, xR2, xR3, xR4, xR5, xTx, xKp, xI0, xI1) u)
  refine lv_aload_n hx hb dL_law_797 rfl (lv_at hl 2 rfl) ?_
  refine cl_iL [17] [0, 1, 2, 3, 4, 5, 6, 7, 8, 9, 10, 11, 12, 13, 14, 15, 16] [wT g, wS cT g 1 xNow, wV cT g 9 1 xSv, wS cT g 13 o.2, wV cT g 21 13 xTs, wH cT g 25 xHi, wS cT g 27 xR0, wS cT g 35 xR1, wS cT g 43 xR2, wS cT g 51 xR3, wS cT g 59 xR4, wS cT g 67 xR5, wX cT g 75 xTx, wI cT g 77, wK cT g 94 xKp, wS cT g 78 xI0, wS cT g 86 xI1, wM cT gm 0 o'.2] hP hD1 hA hS (va_runV (As := []) (rest := [.int o.1]) ⟨hx, hb, hml, hown, hts⟩ (c_X5_minutesLeft l D cT gm 0 fu u  o' ho' _) (cwV 0 hts (goodIn_app (goodIn_r _ [808, 809, 810, 50] (by decide +kernel) (by decide +kernel)) gl_X5_minutesLeft) rfl rfl rfl (by decide +kernel) ⟨Nat.le_of_ble_eq_true rfl, Nat.le_of_ble_eq_true rfl⟩) ⟨PRE_blind, va_recv hK hP (ci := 5) (q0 := 95) rfl rfl, PRE_ok [17] (by decide) hP hD1 hA hS hK hN hZ⟩ rfl rfl hl.1 rfl (lv_room (Nat.le_of_ble_eq_true rfl)) dL_law_798 ⟨Nat.le_of_ble_eq_true rfl, Nat.le_of_ble_eq_true rfl⟩) (pick_last [wT g, wS cT g 1 xNow, wV cT g 9 1 xSv, wS cT g 13 o.2, wV cT g 21 13 xTs, wH cT g 25 xHi, wS cT g 27 xR0, wS cT g 35 xR1, wS cT g 43 xR2, wS cT g 51 xR3, wS cT g 59 xR4, wS cT g 67 xR5, wX cT g 75 xTx, wI cT g 77, wK cT g 94 xKp, wS cT g 78 xI0, wS cT g 86 xI1] (wM cT gm 0 o'.2) (wM cT gm 0 u) [0, 1, 2, 3, 4, 5, 6, 7, 8, 9, 10, 11, 12, 13, 14, 15, 16] rfl) 18 rfl (by decide) (by decide) (fun H locs hP hS => ?_)
  refine lv_icmp_eq (tgt := 806) hx hb dL_law_801 (by decide) (fun _ => ?_) (fun h9 => absurd he h9)
  exact kk (xNow, xSv, o.2, xTs, xHi, xR0, xR1, xR2, xR3, xR4, xR5, xTx, xKp, xI0, xI1) o'.2 _ _ _ hR' hP hS hl
