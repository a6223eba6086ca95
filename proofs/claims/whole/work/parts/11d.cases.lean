set_option maxHeartbeats 4000000 in
set_option maxRecDepth 100000 in
theorem lc_begin {p : Program} {l : Launch} {e : Env} {s : State} {m : MethodId} {below : List Frame} {meth : Method} {c : Code} {D : va_G} {cT : Nat → ClassId} {b L : Nat} {xs : Nat → Int32} {g gm : Nat → Nat} {RR : TC → TM → Prop} {fu : Nat} {B0 : List va_W} (C0 : lw_At p s m meth c b L xs) (hK : va_K D vwCl (ty4 cT) s) (hN : NWs s) (hZ : STs (fun q : Nat => s.heap.size ≤ q) s s.heap) (hD : va_D (fun q : Nat => s.heap.size ≤ q) B0.flatten) (hadr : ∀ (C : TC) (u : TM), adr (LB cT g gm C u).flatten = adr B0.flatten) (hop : OP_begin RR fu) {i : Int32} (h1 : vp_in (i + 1) L) (h2 : vp_in (i + 2) L) (h3 : vp_in (i + 3) L) (kk : ∀ (C : TC) (u : TM) (H : Heap) (locs : List Loc) (ls : Array Slot), RR C u → va_P D vwCl (LB cT g gm C u).flatten H → va_S (fun q : Nat => s.heap.size ≤ q) s.heap H locs → lv_has ls 4 [(0, .ref b), (1, .ref (g 0)), (2, .ref (gm 0)), (3, .int i)] → W p l e room_1 s m #[Value.ref b] below meth c H locs 600000 7302250 (lw_Z below #[Value.ref b] s) (F0 m 806 ls [])) {C : TC} {u : TM} {H : Heap} {locs : List Loc} {ls : Array Slot} (hR : RR C u) (hP : va_P D vwCl (LB cT g gm C u).flatten H) (hS : va_S (fun q : Nat => s.heap.size ≤ q) s.heap H locs) (hl : lv_has ls 4 [(0, .ref b), (1, .ref (g 0)), (2, .ref (gm 0)), (3, .int i)]) : W p l e room_1 s m #[Value.ref b] below meth c H locs 600000 7302250 (lw_Z below #[Value.ref b] s) (F0 m 144 ls []) := by
  obtain ⟨hx, hb, hr, hml, hown, hts, hX, hbl, hlocks, hgv⟩ := C0
  have hA : ∀ q : Nat, s.heap.size ≤ q → (fun q : Nat => s.heap.size ≤ q) q := fun _ h => h
  have hbA : ¬ (fun q : Nat => s.heap.size ≤ q) b := Nat.not_le.mpr hbl
  obtain ⟨o, o', ho, ho', he, hR'⟩ := hop C u (xs (i + 1).toNatClampNeg) hR
  refine lv_aload_n hx hb dL_law_144 rfl (lv_at hl 1 rfl) ?_
  refine lv_aload_n hx hb dL_law_145 rfl (lv_at hl 0 rfl) ?_
  refine lv_iload_n hx hb dL_law_146 rfl (lv_at hl 3 rfl) ?_
  refine lv_iconst (v := 1) hx hb dL_law_147 (by decide) ?_
  refine lv_iadd hx hb dL_law_148 ?_
  refine va_sld hx hb hX hbl hbA hS h1 dL_law_149 ?_
  refine cl_iL [0, 1, 5, 6, 7, 8, 9, 10, 11] [2, 3, 4, 12, 13, 14, 15, 16, 17] [wT g, wS cT g 1 o.2.1, wV cT g 9 1 (C_sv C), wS cT g 13 (C_tr C), wV cT g 21 13 (C_ts C), wH cT g 25 o.2.2.1, wS cT g 27 o.2.2.2.1, wS cT g 35 o.2.2.2.2.1, wS cT g 43 o.2.2.2.2.2.1, wS cT g 51 o.2.2.2.2.2.2.1, wS cT g 59 o.2.2.2.2.2.2.2.1, wS cT g 67 o.2.2.2.2.2.2.2.2, wX cT g 75 (C_tx C), wI cT g 77, wK cT g 94 (C_kp C), wS cT g 78 (C_i0 C), wS cT g 86 (C_i1 C), wM cT gm 0 u] hP (va_D_adr hD (hadr _ _)) hA hS (va_runV (As := [.int (xs (i + 1).toNatClampNeg)]) (rest := []) ⟨hx, hb, hml, hown, hts⟩ (c_X4_begin l D cT g fu (C_now C) (C_hi C) (C_r0 C) (C_r1 C) (C_r2 C) (C_r3 C) (C_r4 C) (C_r5 C) (xs (i + 1).toNatClampNeg) o ho _) (cwV 1 hts (goodIn_app (goodIn_r _ [221, 222, 223, 44] (by decide +kernel) (by decide +kernel)) gl_X4_begin) rfl rfl rfl (by decide +kernel) ⟨Nat.le_of_ble_eq_true rfl, Nat.le_of_ble_eq_true rfl⟩) ⟨PRE_blind, va_recv hK hP (ci := 4) (q0 := 0) rfl rfl, PRE_ok [0, 1, 5, 6, 7, 8, 9, 10, 11] (by decide) hP (va_D_adr hD (hadr _ _)) hA hS hK hN hZ⟩ rfl rfl hl.1 rfl (lv_room (Nat.le_of_ble_eq_true rfl)) dL_law_150 ⟨Nat.le_of_ble_eq_true rfl, Nat.le_of_ble_eq_true rfl⟩) rfl 18 rfl (by decide) (by decide) (fun H locs hP hS => ?_)
  replace hP : va_P D vwCl (LB cT g gm (C_r5_ (C_r4_ (C_r3_ (C_r2_ (C_r1_ (C_r0_ (C_hi_ (C_now_ C o.2.1) o.2.2.1) o.2.2.2.1) o.2.2.2.2.1) o.2.2.2.2.2.1) o.2.2.2.2.2.2.1) o.2.2.2.2.2.2.2.1) o.2.2.2.2.2.2.2.2) u).flatten H := hP
  refine lv_aload_n hx hb dL_law_153 rfl (lv_at hl 2 rfl) ?_
  refine lv_aload_n hx hb dL_law_154 rfl (lv_at hl 0 rfl) ?_
  refine lv_iload_n hx hb dL_law_155 rfl (lv_at hl 3 rfl) ?_
  refine lv_iconst (v := 1) hx hb dL_law_156 (by decide) ?_
  refine lv_iadd hx hb dL_law_157 ?_
  refine va_sld hx hb hX hbl hbA hS h1 dL_law_158 ?_
  refine cl_iL [17] [0, 1, 2, 3, 4, 5, 6, 7, 8, 9, 10, 11, 12, 13, 14, 15, 16] [wT g, wS cT g 1 o.2.1, wV cT g 9 1 (C_sv C), wS cT g 13 (C_tr C), wV cT g 21 13 (C_ts C), wH cT g 25 o.2.2.1, wS cT g 27 o.2.2.2.1, wS cT g 35 o.2.2.2.2.1, wS cT g 43 o.2.2.2.2.2.1, wS cT g 51 o.2.2.2.2.2.2.1, wS cT g 59 o.2.2.2.2.2.2.2.1, wS cT g 67 o.2.2.2.2.2.2.2.2, wX cT g 75 (C_tx C), wI cT g 77, wK cT g 94 (C_kp C), wS cT g 78 (C_i0 C), wS cT g 86 (C_i1 C), wM cT gm 0 o'.2] hP (va_D_adr hD (hadr _ _)) hA hS (va_runV (As := [.int (xs (i + 1).toNatClampNeg)]) (rest := [.int o.1]) ⟨hx, hb, hml, hown, hts⟩ (c_X5_begin l D cT gm 0 fu u (xs (i + 1).toNatClampNeg) o' ho' _) (cwV 1 hts (goodIn_app (goodIn_r _ [586, 587, 588, 50] (by decide +kernel) (by decide +kernel)) gl_X5_begin) rfl rfl rfl (by decide +kernel) ⟨Nat.le_of_ble_eq_true rfl, Nat.le_of_ble_eq_true rfl⟩) ⟨PRE_blind, va_recv hK hP (ci := 5) (q0 := 95) rfl rfl, PRE_ok [17] (by decide) hP (va_D_adr hD (hadr _ _)) hA hS hK hN hZ⟩ rfl rfl hl.1 rfl (lv_room (Nat.le_of_ble_eq_true rfl)) dL_law_159 ⟨Nat.le_of_ble_eq_true rfl, Nat.le_of_ble_eq_true rfl⟩) rfl 18 rfl (by decide) (by decide) (fun H locs hP hS => ?_)
  replace hP : va_P D vwCl (LB cT g gm (C_r5_ (C_r4_ (C_r3_ (C_r2_ (C_r1_ (C_r0_ (C_hi_ (C_now_ C o.2.1) o.2.2.1) o.2.2.2.1) o.2.2.2.2.1) o.2.2.2.2.2.1) o.2.2.2.2.2.2.1) o.2.2.2.2.2.2.2.1) o.2.2.2.2.2.2.2.2) o'.2).flatten H := hP
  refine lv_icmp_eq (tgt := 806) hx hb dL_law_162 (by decide) (fun _ => ?_) (fun h9 => absurd he h9)
  exact kk _ _ _ _ _ hR' hP hS hl
set_option maxHeartbeats 4000000 in
set_option maxRecDepth 100000 in
theorem lc_setNumber {p : Program} {l : Launch} {e : Env} {s : State} {m : MethodId} {below : List Frame} {meth : Method} {c : Code} {D : va_G} {cT : Nat → ClassId} {b L : Nat} {xs : Nat → Int32} {g gm : Nat → Nat} {RR : TC → TM → Prop} {fu : Nat} {B0 : List va_W} (C0 : lw_At p s m meth c b L xs) (hK : va_K D vwCl (ty4 cT) s) (hN : NWs s) (hZ : STs (fun q : Nat => s.heap.size ≤ q) s s.heap) (hD : va_D (fun q : Nat => s.heap.size ≤ q) B0.flatten) (hadr : ∀ (C : TC) (u : TM), adr (LB cT g gm C u).flatten = adr B0.flatten) (hop : OP_setNumber RR fu) {i : Int32} (h1 : vp_in (i + 1) L) (h2 : vp_in (i + 2) L) (h3 : vp_in (i + 3) L) (kk : ∀ (C : TC) (u : TM) (H : Heap) (locs : List Loc) (ls : Array Slot), RR C u → va_P D vwCl (LB cT g gm C u).flatten H → va_S (fun q : Nat => s.heap.size ≤ q) s.heap H locs → lv_has ls 4 [(0, .ref b), (1, .ref (g 0)), (2, .ref (gm 0)), (3, .int i)] → W p l e room_1 s m #[Value.ref b] below meth c H locs 600000 7302250 (lw_Z below #[Value.ref b] s) (F0 m 806 ls [])) {C : TC} {u : TM} {H : Heap} {locs : List Loc} {ls : Array Slot} (hR : RR C u) (hP : va_P D vwCl (LB cT g gm C u).flatten H) (hS : va_S (fun q : Nat => s.heap.size ≤ q) s.heap H locs) (hl : lv_has ls 4 [(0, .ref b), (1, .ref (g 0)), (2, .ref (gm 0)), (3, .int i)]) : W p l e room_1 s m #[Value.ref b] below meth c H locs 600000 7302250 (lw_Z below #[Value.ref b] s) (F0 m 167 ls []) := by
  obtain ⟨hx, hb, hr, hml, hown, hts, hX, hbl, hlocks, hgv⟩ := C0
  have hA : ∀ q : Nat, s.heap.size ≤ q → (fun q : Nat => s.heap.size ≤ q) q := fun _ h => h
  have hbA : ¬ (fun q : Nat => s.heap.size ≤ q) b := Nat.not_le.mpr hbl
  obtain ⟨o, o', ho, ho', he, hR'⟩ := hop C u (xs (i + 1).toNatClampNeg) (xs (i + 2).toNatClampNeg) hR
  refine lv_aload_n hx hb dL_law_167 rfl (lv_at hl 1 rfl) ?_
  refine lv_aload_n hx hb dL_law_168 rfl (lv_at hl 0 rfl) ?_
  refine lv_iload_n hx hb dL_law_169 rfl (lv_at hl 3 rfl) ?_
  refine lv_iconst (v := 1) hx hb dL_law_170 (by decide) ?_
  refine lv_iadd hx hb dL_law_171 ?_
  refine va_sld hx hb hX hbl hbA hS h1 dL_law_172 ?_
  refine lv_aload_n hx hb dL_law_173 rfl (lv_at hl 0 rfl) ?_
  refine lv_iload_n hx hb dL_law_174 rfl (lv_at hl 3 rfl) ?_
  refine lv_iconst (v := 2) hx hb dL_law_175 (by decide) ?_
  refine lv_iadd hx hb dL_law_176 ?_
  refine va_sld hx hb hX hbl hbA hS h2 dL_law_177 ?_
  refine cl_iL [0, 1, 5, 6, 7, 8, 9, 10, 11] [2, 3, 4, 12, 13, 14, 15, 16, 17] [wT g, wS cT g 1 o.2.1, wV cT g 9 1 (C_sv C), wS cT g 13 (C_tr C), wV cT g 21 13 (C_ts C), wH cT g 25 o.2.2.1, wS cT g 27 o.2.2.2.1, wS cT g 35 o.2.2.2.2.1, wS cT g 43 o.2.2.2.2.2.1, wS cT g 51 o.2.2.2.2.2.2.1, wS cT g 59 o.2.2.2.2.2.2.2.1, wS cT g 67 o.2.2.2.2.2.2.2.2, wX cT g 75 (C_tx C), wI cT g 77, wK cT g 94 (C_kp C), wS cT g 78 (C_i0 C), wS cT g 86 (C_i1 C), wM cT gm 0 u] hP (va_D_adr hD (hadr _ _)) hA hS (va_runV (As := [.int (xs (i + 1).toNatClampNeg), .int (xs (i + 2).toNatClampNeg)]) (rest := []) ⟨hx, hb, hml, hown, hts⟩ (c_X4_setNumber l D cT g fu (C_now C) (C_hi C) (C_r0 C) (C_r1 C) (C_r2 C) (C_r3 C) (C_r4 C) (C_r5 C) (xs (i + 1).toNatClampNeg) (xs (i + 2).toNatClampNeg) o ho _) (cwV 2 hts (goodIn_app (goodIn_r _ [244, 245, 246, 44] (by decide +kernel) (by decide +kernel)) gl_X4_setNumber) rfl rfl rfl (by decide +kernel) ⟨Nat.le_of_ble_eq_true rfl, Nat.le_of_ble_eq_true rfl⟩) ⟨PRE_blind, va_recv hK hP (ci := 4) (q0 := 0) rfl rfl, PRE_ok [0, 1, 5, 6, 7, 8, 9, 10, 11] (by decide) hP (va_D_adr hD (hadr _ _)) hA hS hK hN hZ⟩ rfl rfl hl.1 rfl (lv_room (Nat.le_of_ble_eq_true rfl)) dL_law_178 ⟨Nat.le_of_ble_eq_true rfl, Nat.le_of_ble_eq_true rfl⟩) rfl 18 rfl (by decide) (by decide) (fun H locs hP hS => ?_)
  replace hP : va_P D vwCl (LB cT g gm (C_r5_ (C_r4_ (C_r3_ (C_r2_ (C_r1_ (C_r0_ (C_hi_ (C_now_ C o.2.1) o.2.2.1) o.2.2.2.1) o.2.2.2.2.1) o.2.2.2.2.2.1) o.2.2.2.2.2.2.1) o.2.2.2.2.2.2.2.1) o.2.2.2.2.2.2.2.2) u).flatten H := hP
  refine lv_aload_n hx hb dL_law_181 rfl (lv_at hl 2 rfl) ?_
  refine lv_aload_n hx hb dL_law_182 rfl (lv_at hl 0 rfl) ?_
  refine lv_iload_n hx hb dL_law_183 rfl (lv_at hl 3 rfl) ?_
  refine lv_iconst (v := 1) hx hb dL_law_184 (by decide) ?_
  refine lv_iadd hx hb dL_law_185 ?_
  refine va_sld hx hb hX hbl hbA hS h1 dL_law_186 ?_
  refine lv_aload_n hx hb dL_law_187 rfl (lv_at hl 0 rfl) ?_
  refine lv_iload_n hx hb dL_law_188 rfl (lv_at hl 3 rfl) ?_
  refine lv_iconst (v := 2) hx hb dL_law_189 (by decide) ?_
  refine lv_iadd hx hb dL_law_190 ?_
  refine va_sld hx hb hX hbl hbA hS h2 dL_law_191 ?_
  refine cl_iL [17] [0, 1, 2, 3, 4, 5, 6, 7, 8, 9, 10, 11, 12, 13, 14, 15, 16] [wT g, wS cT g 1 o.2.1, wV cT g 9 1 (C_sv C), wS cT g 13 (C_tr C), wV cT g 21 13 (C_ts C), wH cT g 25 o.2.2.1, wS cT g 27 o.2.2.2.1, wS cT g 35 o.2.2.2.2.1, wS cT g 43 o.2.2.2.2.2.1, wS cT g 51 o.2.2.2.2.2.2.1, wS cT g 59 o.2.2.2.2.2.2.2.1, wS cT g 67 o.2.2.2.2.2.2.2.2, wX cT g 75 (C_tx C), wI cT g 77, wK cT g 94 (C_kp C), wS cT g 78 (C_i0 C), wS cT g 86 (C_i1 C), wM cT gm 0 o'.2] hP (va_D_adr hD (hadr _ _)) hA hS (va_runV (As := [.int (xs (i + 1).toNatClampNeg), .int (xs (i + 2).toNatClampNeg)]) (rest := [.int o.1]) ⟨hx, hb, hml, hown, hts⟩ (c_X5_setNumber l D cT gm 0 fu u (xs (i + 1).toNatClampNeg) (xs (i + 2).toNatClampNeg) o' ho' _) (cwV 2 hts (goodIn_app (goodIn_r _ [598, 599, 600, 50] (by decide +kernel) (by decide +kernel)) gl_X5_setNumber) rfl rfl rfl (by decide +kernel) ⟨Nat.le_of_ble_eq_true rfl, Nat.le_of_ble_eq_true rfl⟩) ⟨PRE_blind, va_recv hK hP (ci := 5) (q0 := 95) rfl rfl, PRE_ok [17] (by decide) hP (va_D_adr hD (hadr _ _)) hA hS hK hN hZ⟩ rfl rfl hl.1 rfl (lv_room (Nat.le_of_ble_eq_true rfl)) dL_law_192 ⟨Nat.le_of_ble_eq_true rfl, Nat.le_of_ble_eq_true rfl⟩) rfl 18 rfl (by decide) (by decide) (fun H locs hP hS => ?_)
  replace hP : va_P D vwCl (LB cT g gm (C_r5_ (C_r4_ (C_r3_ (C_r2_ (C_r1_ (C_r0_ (C_hi_ (C_now_ C o.2.1) o.2.2.1) o.2.2.2.1) o.2.2.2.2.1) o.2.2.2.2.2.1) o.2.2.2.2.2.2.1) o.2.2.2.2.2.2.2.1) o.2.2.2.2.2.2.2.2) o'.2).flatten H := hP
  refine lv_icmp_eq (tgt := 806) hx hb dL_law_195 (by decide) (fun _ => ?_) (fun h9 => absurd he h9)
  exact kk _ _ _ _ _ hR' hP hS hl
set_option maxHeartbeats 4000000 in
set_option maxRecDepth 100000 in
theorem lc_setLevel {p : Program} {l : Launch} {e : Env} {s : State} {m : MethodId} {below : List Frame} {meth : Method} {c : Code} {D : va_G} {cT : Nat → ClassId} {b L : Nat} {xs : Nat → Int32} {g gm : Nat → Nat} {RR : TC → TM → Prop} {fu : Nat} {B0 : List va_W} (C0 : lw_At p s m meth c b L xs) (hK : va_K D vwCl (ty4 cT) s) (hN : NWs s) (hZ : STs (fun q : Nat => s.heap.size ≤ q) s s.heap) (hD : va_D (fun q : Nat => s.heap.size ≤ q) B0.flatten) (hadr : ∀ (C : TC) (u : TM), adr (LB cT g gm C u).flatten = adr B0.flatten) (hop : OP_setLevel RR fu) {i : Int32} (h1 : vp_in (i + 1) L) (h2 : vp_in (i + 2) L) (h3 : vp_in (i + 3) L) (kk : ∀ (C : TC) (u : TM) (H : Heap) (locs : List Loc) (ls : Array Slot), RR C u → va_P D vwCl (LB cT g gm C u).flatten H → va_S (fun q : Nat => s.heap.size ≤ q) s.heap H locs → lv_has ls 4 [(0, .ref b), (1, .ref (g 0)), (2, .ref (gm 0)), (3, .int i)] → W p l e room_1 s m #[Value.ref b] below meth c H locs 600000 7302250 (lw_Z below #[Value.ref b] s) (F0 m 806 ls [])) {C : TC} {u : TM} {H : Heap} {locs : List Loc} {ls : Array Slot} (hR : RR C u) (hP : va_P D vwCl (LB cT g gm C u).flatten H) (hS : va_S (fun q : Nat => s.heap.size ≤ q) s.heap H locs) (hl : lv_has ls 4 [(0, .ref b), (1, .ref (g 0)), (2, .ref (gm 0)), (3, .int i)]) : W p l e room_1 s m #[Value.ref b] below meth c H locs 600000 7302250 (lw_Z below #[Value.ref b] s) (F0 m 200 ls []) := by
  obtain ⟨hx, hb, hr, hml, hown, hts, hX, hbl, hlocks, hgv⟩ := C0
  have hA : ∀ q : Nat, s.heap.size ≤ q → (fun q : Nat => s.heap.size ≤ q) q := fun _ h => h
  have hbA : ¬ (fun q : Nat => s.heap.size ≤ q) b := Nat.not_le.mpr hbl
  obtain ⟨o, o', ho, ho', he, hR'⟩ := hop C u (xs (i + 1).toNatClampNeg) (xs (i + 2).toNatClampNeg) hR
  refine lv_aload_n hx hb dL_law_200 rfl (lv_at hl 1 rfl) ?_
  refine lv_aload_n hx hb dL_law_201 rfl (lv_at hl 0 rfl) ?_
  refine lv_iload_n hx hb dL_law_202 rfl (lv_at hl 3 rfl) ?_
  refine lv_iconst (v := 1) hx hb dL_law_203 (by decide) ?_
  refine lv_iadd hx hb dL_law_204 ?_
  refine va_sld hx hb hX hbl hbA hS h1 dL_law_205 ?_
  refine lv_aload_n hx hb dL_law_206 rfl (lv_at hl 0 rfl) ?_
  refine lv_iload_n hx hb dL_law_207 rfl (lv_at hl 3 rfl) ?_
  refine lv_iconst (v := 2) hx hb dL_law_208 (by decide) ?_
  refine lv_iadd hx hb dL_law_209 ?_
  refine va_sld hx hb hX hbl hbA hS h2 dL_law_210 ?_
  refine cl_iL [0, 1, 5, 6, 7, 8, 9, 10, 11] [2, 3, 4, 12, 13, 14, 15, 16, 17] [wT g, wS cT g 1 o.2.1, wV cT g 9 1 (C_sv C), wS cT g 13 (C_tr C), wV cT g 21 13 (C_ts C), wH cT g 25 o.2.2.1, wS cT g 27 o.2.2.2.1, wS cT g 35 o.2.2.2.2.1, wS cT g 43 o.2.2.2.2.2.1, wS cT g 51 o.2.2.2.2.2.2.1, wS cT g 59 o.2.2.2.2.2.2.2.1, wS cT g 67 o.2.2.2.2.2.2.2.2, wX cT g 75 (C_tx C), wI cT g 77, wK cT g 94 (C_kp C), wS cT g 78 (C_i0 C), wS cT g 86 (C_i1 C), wM cT gm 0 u] hP (va_D_adr hD (hadr _ _)) hA hS (va_runV (As := [.int (xs (i + 1).toNatClampNeg), .int (xs (i + 2).toNatClampNeg)]) (rest := []) ⟨hx, hb, hml, hown, hts⟩ (c_X4_setLevel l D cT g fu (C_now C) (C_hi C) (C_r0 C) (C_r1 C) (C_r2 C) (C_r3 C) (C_r4 C) (C_r5 C) (xs (i + 1).toNatClampNeg) (xs (i + 2).toNatClampNeg) o ho _) (cwV 2 hts (goodIn_app (goodIn_r _ [260, 261, 262, 44] (by decide +kernel) (by decide +kernel)) gl_X4_setLevel) rfl rfl rfl (by decide +kernel) ⟨Nat.le_of_ble_eq_true rfl, Nat.le_of_ble_eq_true rfl⟩) ⟨PRE_blind, va_recv hK hP (ci := 4) (q0 := 0) rfl rfl, PRE_ok [0, 1, 5, 6, 7, 8, 9, 10, 11] (by decide) hP (va_D_adr hD (hadr _ _)) hA hS hK hN hZ⟩ rfl rfl hl.1 rfl (lv_room (Nat.le_of_ble_eq_true rfl)) dL_law_211 ⟨Nat.le_of_ble_eq_true rfl, Nat.le_of_ble_eq_true rfl⟩) rfl 18 rfl (by decide) (by decide) (fun H locs hP hS => ?_)
  replace hP : va_P D vwCl (LB cT g gm (C_r5_ (C_r4_ (C_r3_ (C_r2_ (C_r1_ (C_r0_ (C_hi_ (C_now_ C o.2.1) o.2.2.1) o.2.2.2.1) o.2.2.2.2.1) o.2.2.2.2.2.1) o.2.2.2.2.2.2.1) o.2.2.2.2.2.2.2.1) o.2.2.2.2.2.2.2.2) u).flatten H := hP
  refine lv_aload_n hx hb dL_law_214 rfl (lv_at hl 2 rfl) ?_
  refine lv_aload_n hx hb dL_law_215 rfl (lv_at hl 0 rfl) ?_
  refine lv_iload_n hx hb dL_law_216 rfl (lv_at hl 3 rfl) ?_
  refine lv_iconst (v := 1) hx hb dL_law_217 (by decide) ?_
  refine lv_iadd hx hb dL_law_218 ?_
  refine va_sld hx hb hX hbl hbA hS h1 dL_law_219 ?_
  refine lv_aload_n hx hb dL_law_220 rfl (lv_at hl 0 rfl) ?_
  refine lv_iload_n hx hb dL_law_221 rfl (lv_at hl 3 rfl) ?_
  refine lv_iconst (v := 2) hx hb dL_law_222 (by decide) ?_
  refine lv_iadd hx hb dL_law_223 ?_
  refine va_sld hx hb hX hbl hbA hS h2 dL_law_224 ?_
  refine cl_iL [17] [0, 1, 2, 3, 4, 5, 6, 7, 8, 9, 10, 11, 12, 13, 14, 15, 16] [wT g, wS cT g 1 o.2.1, wV cT g 9 1 (C_sv C), wS cT g 13 (C_tr C), wV cT g 21 13 (C_ts C), wH cT g 25 o.2.2.1, wS cT g 27 o.2.2.2.1, wS cT g 35 o.2.2.2.2.1, wS cT g 43 o.2.2.2.2.2.1, wS cT g 51 o.2.2.2.2.2.2.1, wS cT g 59 o.2.2.2.2.2.2.2.1, wS cT g 67 o.2.2.2.2.2.2.2.2, wX cT g 75 (C_tx C), wI cT g 77, wK cT g 94 (C_kp C), wS cT g 78 (C_i0 C), wS cT g 86 (C_i1 C), wM cT gm 0 o'.2] hP (va_D_adr hD (hadr _ _)) hA hS (va_runV (As := [.int (xs (i + 1).toNatClampNeg), .int (xs (i + 2).toNatClampNeg)]) (rest := [.int o.1]) ⟨hx, hb, hml, hown, hts⟩ (c_X5_setLevel l D cT gm 0 fu u (xs (i + 1).toNatClampNeg) (xs (i + 2).toNatClampNeg) o' ho' _) (cwV 2 hts (goodIn_app (goodIn_r _ [606, 607, 608, 50] (by decide +kernel) (by decide +kernel)) gl_X5_setLevel) rfl rfl rfl (by decide +kernel) ⟨Nat.le_of_ble_eq_true rfl, Nat.le_of_ble_eq_true rfl⟩) ⟨PRE_blind, va_recv hK hP (ci := 5) (q0 := 95) rfl rfl, PRE_ok [17] (by decide) hP (va_D_adr hD (hadr _ _)) hA hS hK hN hZ⟩ rfl rfl hl.1 rfl (lv_room (Nat.le_of_ble_eq_true rfl)) dL_law_225 ⟨Nat.le_of_ble_eq_true rfl, Nat.le_of_ble_eq_true rfl⟩) rfl 18 rfl (by decide) (by decide) (fun H locs hP hS => ?_)
  replace hP : va_P D vwCl (LB cT g gm (C_r5_ (C_r4_ (C_r3_ (C_r2_ (C_r1_ (C_r0_ (C_hi_ (C_now_ C o.2.1) o.2.2.1) o.2.2.2.1) o.2.2.2.2.1) o.2.2.2.2.2.1) o.2.2.2.2.2.2.1) o.2.2.2.2.2.2.2.1) o.2.2.2.2.2.2.2.2) o'.2).flatten H := hP
  refine lv_icmp_eq (tgt := 806) hx hb dL_law_228 (by decide) (fun _ => ?_) (fun h9 => absurd he h9)
  exact kk _ _ _ _ _ hR' hP hS hl
set_option maxHeartbeats 4000000 in
set_option maxRecDepth 100000 in
theorem lc_appendCharacter {p : Program} {l : Launch} {e : Env} {s : State} {m : MethodId} {below : List Frame} {meth : Method} {c : Code} {D : va_G} {cT : Nat → ClassId} {b L : Nat} {xs : Nat → Int32} {g gm : Nat → Nat} {RR : TC → TM → Prop} {fu : Nat} {B0 : List va_W} (C0 : lw_At p s m meth c b L xs) (hK : va_K D vwCl (ty4 cT) s) (hN : NWs s) (hZ : STs (fun q : Nat => s.heap.size ≤ q) s s.heap) (hD : va_D (fun q : Nat => s.heap.size ≤ q) B0.flatten) (hadr : ∀ (C : TC) (u : TM), adr (LB cT g gm C u).flatten = adr B0.flatten) (hop : OP_appendCharacter RR fu) {i : Int32} (h1 : vp_in (i + 1) L) (h2 : vp_in (i + 2) L) (h3 : vp_in (i + 3) L) (kk : ∀ (C : TC) (u : TM) (H : Heap) (locs : List Loc) (ls : Array Slot), RR C u → va_P D vwCl (LB cT g gm C u).flatten H → va_S (fun q : Nat => s.heap.size ≤ q) s.heap H locs → lv_has ls 4 [(0, .ref b), (1, .ref (g 0)), (2, .ref (gm 0)), (3, .int i)] → W p l e room_1 s m #[Value.ref b] below meth c H locs 600000 7302250 (lw_Z below #[Value.ref b] s) (F0 m 806 ls [])) {C : TC} {u : TM} {H : Heap} {locs : List Loc} {ls : Array Slot} (hR : RR C u) (hP : va_P D vwCl (LB cT g gm C u).flatten H) (hS : va_S (fun q : Nat => s.heap.size ≤ q) s.heap H locs) (hl : lv_has ls 4 [(0, .ref b), (1, .ref (g 0)), (2, .ref (gm 0)), (3, .int i)]) : W p l e room_1 s m #[Value.ref b] below meth c H locs 600000 7302250 (lw_Z below #[Value.ref b] s) (F0 m 233 ls []) := by
  obtain ⟨hx, hb, hr, hml, hown, hts, hX, hbl, hlocks, hgv⟩ := C0
  have hA : ∀ q : Nat, s.heap.size ≤ q → (fun q : Nat => s.heap.size ≤ q) q := fun _ h => h
  have hbA : ¬ (fun q : Nat => s.heap.size ≤ q) b := Nat.not_le.mpr hbl
  obtain ⟨o, o', ho, ho', he, hR'⟩ := hop C u (xs (i + 1).toNatClampNeg) hR
  refine lv_aload_n hx hb dL_law_233 rfl (lv_at hl 1 rfl) ?_
  refine lv_aload_n hx hb dL_law_234 rfl (lv_at hl 0 rfl) ?_
  refine lv_iload_n hx hb dL_law_235 rfl (lv_at hl 3 rfl) ?_
  refine lv_iconst (v := 1) hx hb dL_law_236 (by decide) ?_
  refine lv_iadd hx hb dL_law_237 ?_
  refine va_sld hx hb hX hbl hbA hS h1 dL_law_238 ?_
  refine cl_iL [0, 12] [1, 2, 3, 4, 5, 6, 7, 8, 9, 10, 11, 13, 14, 15, 16, 17] [wT g, wS cT g 1 (C_now C), wV cT g 9 1 (C_sv C), wS cT g 13 (C_tr C), wV cT g 21 13 (C_ts C), wH cT g 25 (C_hi C), wS cT g 27 (C_r0 C), wS cT g 35 (C_r1 C), wS cT g 43 (C_r2 C), wS cT g 51 (C_r3 C), wS cT g 59 (C_r4 C), wS cT g 67 (C_r5 C), wX cT g 75 o.2, wI cT g 77, wK cT g 94 (C_kp C), wS cT g 78 (C_i0 C), wS cT g 86 (C_i1 C), wM cT gm 0 u] hP (va_D_adr hD (hadr _ _)) hA hS (va_runV (As := [.int (xs (i + 1).toNatClampNeg)]) (rest := []) ⟨hx, hb, hml, hown, hts⟩ (c_X4_appendCharacter l D cT g fu (C_tx C) (xs (i + 1).toNatClampNeg) o ho _) (cwV 1 hts (goodIn_app (goodIn_r _ [276, 277, 278, 44] (by decide +kernel) (by decide +kernel)) gl_X4_appendCharacter) rfl rfl rfl (by decide +kernel) ⟨Nat.le_of_ble_eq_true rfl, Nat.le_of_ble_eq_true rfl⟩) ⟨PRE_blind, va_recv hK hP (ci := 4) (q0 := 0) rfl rfl, PRE_ok [0, 12] (by decide) hP (va_D_adr hD (hadr _ _)) hA hS hK hN hZ⟩ rfl rfl hl.1 rfl (lv_room (Nat.le_of_ble_eq_true rfl)) dL_law_239 ⟨Nat.le_of_ble_eq_true rfl, Nat.le_of_ble_eq_true rfl⟩) rfl 18 rfl (by decide) (by decide) (fun H locs hP hS => ?_)
  replace hP : va_P D vwCl (LB cT g gm (C_tx_ C o.2) u).flatten H := hP
  refine lv_aload_n hx hb dL_law_242 rfl (lv_at hl 2 rfl) ?_
  refine lv_aload_n hx hb dL_law_243 rfl (lv_at hl 0 rfl) ?_
  refine lv_iload_n hx hb dL_law_244 rfl (lv_at hl 3 rfl) ?_
  refine lv_iconst (v := 1) hx hb dL_law_245 (by decide) ?_
  refine lv_iadd hx hb dL_law_246 ?_
  refine va_sld hx hb hX hbl hbA hS h1 dL_law_247 ?_
  refine cl_iL [17] [0, 1, 2, 3, 4, 5, 6, 7, 8, 9, 10, 11, 12, 13, 14, 15, 16] [wT g, wS cT g 1 (C_now C), wV cT g 9 1 (C_sv C), wS cT g 13 (C_tr C), wV cT g 21 13 (C_ts C), wH cT g 25 (C_hi C), wS cT g 27 (C_r0 C), wS cT g 35 (C_r1 C), wS cT g 43 (C_r2 C), wS cT g 51 (C_r3 C), wS cT g 59 (C_r4 C), wS cT g 67 (C_r5 C), wX cT g 75 o.2, wI cT g 77, wK cT g 94 (C_kp C), wS cT g 78 (C_i0 C), wS cT g 86 (C_i1 C), wM cT gm 0 o'.2] hP (va_D_adr hD (hadr _ _)) hA hS (va_runV (As := [.int (xs (i + 1).toNatClampNeg)]) (rest := [.int o.1]) ⟨hx, hb, hml, hown, hts⟩ (c_X5_appendCharacter l D cT gm 0 fu u (xs (i + 1).toNatClampNeg) o' ho' _) (cwV 1 hts (goodIn_app (goodIn_r _ [621, 622, 623, 50] (by decide +kernel) (by decide +kernel)) gl_X5_appendCharacter) rfl rfl rfl (by decide +kernel) ⟨Nat.le_of_ble_eq_true rfl, Nat.le_of_ble_eq_true rfl⟩) ⟨PRE_blind, va_recv hK hP (ci := 5) (q0 := 95) rfl rfl, PRE_ok [17] (by decide) hP (va_D_adr hD (hadr _ _)) hA hS hK hN hZ⟩ rfl rfl hl.1 rfl (lv_room (Nat.le_of_ble_eq_true rfl)) dL_law_248 ⟨Nat.le_of_ble_eq_true rfl, Nat.le_of_ble_eq_true rfl⟩) rfl 18 rfl (by decide) (by decide) (fun H locs hP hS => ?_)
  replace hP : va_P D vwCl (LB cT g gm (C_tx_ C o.2) o'.2).flatten H := hP
  refine lv_icmp_eq (tgt := 806) hx hb dL_law_251 (by decide) (fun _ => ?_) (fun h9 => absurd he h9)
  exact kk _ _ _ _ _ hR' hP hS hl
set_option maxHeartbeats 4000000 in
set_option maxRecDepth 100000 in
theorem lc_clearText {p : Program} {l : Launch} {e : Env} {s : State} {m : MethodId} {below : List Frame} {meth : Method} {c : Code} {D : va_G} {cT : Nat → ClassId} {b L : Nat} {xs : Nat → Int32} {g gm : Nat → Nat} {RR : TC → TM → Prop} {fu : Nat} {B0 : List va_W} (C0 : lw_At p s m meth c b L xs) (hK : va_K D vwCl (ty4 cT) s) (hN : NWs s) (hZ : STs (fun q : Nat => s.heap.size ≤ q) s s.heap) (hD : va_D (fun q : Nat => s.heap.size ≤ q) B0.flatten) (hadr : ∀ (C : TC) (u : TM), adr (LB cT g gm C u).flatten = adr B0.flatten) (hop : OP_clearText RR fu) {i : Int32} (h1 : vp_in (i + 1) L) (h2 : vp_in (i + 2) L) (h3 : vp_in (i + 3) L) (kk : ∀ (C : TC) (u : TM) (H : Heap) (locs : List Loc) (ls : Array Slot), RR C u → va_P D vwCl (LB cT g gm C u).flatten H → va_S (fun q : Nat => s.heap.size ≤ q) s.heap H locs → lv_has ls 4 [(0, .ref b), (1, .ref (g 0)), (2, .ref (gm 0)), (3, .int i)] → W p l e room_1 s m #[Value.ref b] below meth c H locs 600000 7302250 (lw_Z below #[Value.ref b] s) (F0 m 806 ls [])) {C : TC} {u : TM} {H : Heap} {locs : List Loc} {ls : Array Slot} (hR : RR C u) (hP : va_P D vwCl (LB cT g gm C u).flatten H) (hS : va_S (fun q : Nat => s.heap.size ≤ q) s.heap H locs) (hl : lv_has ls 4 [(0, .ref b), (1, .ref (g 0)), (2, .ref (gm 0)), (3, .int i)]) : W p l e room_1 s m #[Value.ref b] below meth c H locs 600000 7302250 (lw_Z below #[Value.ref b] s) (F0 m 256 ls []) := by
  obtain ⟨hx, hb, hr, hml, hown, hts, hX, hbl, hlocks, hgv⟩ := C0
  have hA : ∀ q : Nat, s.heap.size ≤ q → (fun q : Nat => s.heap.size ≤ q) q := fun _ h => h
  have hbA : ¬ (fun q : Nat => s.heap.size ≤ q) b := Nat.not_le.mpr hbl
  obtain ⟨o, o', ho, ho', he, hR'⟩ := hop C u  hR
  refine lv_aload_n hx hb dL_law_256 rfl (lv_at hl 1 rfl) ?_
  refine cl_iL [0, 12] [1, 2, 3, 4, 5, 6, 7, 8, 9, 10, 11, 13, 14, 15, 16, 17] [wT g, wS cT g 1 (C_now C), wV cT g 9 1 (C_sv C), wS cT g 13 (C_tr C), wV cT g 21 13 (C_ts C), wH cT g 25 (C_hi C), wS cT g 27 (C_r0 C), wS cT g 35 (C_r1 C), wS cT g 43 (C_r2 C), wS cT g 51 (C_r3 C), wS cT g 59 (C_r4 C), wS cT g 67 (C_r5 C), wX cT g 75 o.2, wI cT g 77, wK cT g 94 (C_kp C), wS cT g 78 (C_i0 C), wS cT g 86 (C_i1 C), wM cT gm 0 u] hP (va_D_adr hD (hadr _ _)) hA hS (va_runV (As := []) (rest := []) ⟨hx, hb, hml, hown, hts⟩ (c_X4_clearText l D cT g fu (C_tx C)  o ho _) (cwV 0 hts (goodIn_app (goodIn_r _ [281, 282, 283, 44] (by decide +kernel) (by decide +kernel)) gl_X4_clearText) rfl rfl rfl (by decide +kernel) ⟨Nat.le_of_ble_eq_true rfl, Nat.le_of_ble_eq_true rfl⟩) ⟨PRE_blind, va_recv hK hP (ci := 4) (q0 := 0) rfl rfl, PRE_ok [0, 12] (by decide) hP (va_D_adr hD (hadr _ _)) hA hS hK hN hZ⟩ rfl rfl hl.1 rfl (lv_room (Nat.le_of_ble_eq_true rfl)) dL_law_257 ⟨Nat.le_of_ble_eq_true rfl, Nat.le_of_ble_eq_true rfl⟩) rfl 18 rfl (by decide) (by decide) (fun H locs hP hS => ?_)
  replace hP : va_P D vwCl (LB cT g gm (C_tx_ C o.2) u).flatten H := hP
  refine lv_aload_n hx hb dL_law_260 rfl (lv_at hl 2 rfl) ?_
  refine cl_iL [17] [0, 1, 2, 3, 4, 5, 6, 7, 8, 9, 10, 11, 12, 13, 14, 15, 16] [wT g, wS cT g 1 (C_now C), wV cT g 9 1 (C_sv C), wS cT g 13 (C_tr C), wV cT g 21 13 (C_ts C), wH cT g 25 (C_hi C), wS cT g 27 (C_r0 C), wS cT g 35 (C_r1 C), wS cT g 43 (C_r2 C), wS cT g 51 (C_r3 C), wS cT g 59 (C_r4 C), wS cT g 67 (C_r5 C), wX cT g 75 o.2, wI cT g 77, wK cT g 94 (C_kp C), wS cT g 78 (C_i0 C), wS cT g 86 (C_i1 C), wM cT gm 0 o'.2] hP (va_D_adr hD (hadr _ _)) hA hS (va_runV (As := []) (rest := [.int o.1]) ⟨hx, hb, hml, hown, hts⟩ (c_X5_clearText l D cT gm 0 fu u  o' ho' _) (cwV 0 hts (goodIn_app (goodIn_r _ [626, 627, 628, 50] (by decide +kernel) (by decide +kernel)) gl_X5_clearText) rfl rfl rfl (by decide +kernel) ⟨Nat.le_of_ble_eq_true rfl, Nat.le_of_ble_eq_true rfl⟩) ⟨PRE_blind, va_recv hK hP (ci := 5) (q0 := 95) rfl rfl, PRE_ok [17] (by decide) hP (va_D_adr hD (hadr _ _)) hA hS hK hN hZ⟩ rfl rfl hl.1 rfl (lv_room (Nat.le_of_ble_eq_true rfl)) dL_law_261 ⟨Nat.le_of_ble_eq_true rfl, Nat.le_of_ble_eq_true rfl⟩) rfl 18 rfl (by decide) (by decide) (fun H locs hP hS => ?_)
  replace hP : va_P D vwCl (LB cT g gm (C_tx_ C o.2) o'.2).flatten H := hP
  refine lv_icmp_eq (tgt := 806) hx hb dL_law_264 (by decide) (fun _ => ?_) (fun h9 => absurd he h9)
  exact kk _ _ _ _ _ hR' hP hS hl
set_option maxHeartbeats 4000000 in
set_option maxRecDepth 100000 in
theorem lc_load {p : Program} {l : Launch} {e : Env} {s : State} {m : MethodId} {below : List Frame} {meth : Method} {c : Code} {D : va_G} {cT : Nat → ClassId} {b L : Nat} {xs : Nat → Int32} {g gm : Nat → Nat} {RR : TC → TM → Prop} {fu : Nat} {B0 : List va_W} (C0 : lw_At p s m meth c b L xs) (hK : va_K D vwCl (ty4 cT) s) (hN : NWs s) (hZ : STs (fun q : Nat => s.heap.size ≤ q) s s.heap) (hD : va_D (fun q : Nat => s.heap.size ≤ q) B0.flatten) (hadr : ∀ (C : TC) (u : TM), adr (LB cT g gm C u).flatten = adr B0.flatten) (hop : OP_load RR fu) {i : Int32} (h1 : vp_in (i + 1) L) (h2 : vp_in (i + 2) L) (h3 : vp_in (i + 3) L) (kk : ∀ (C : TC) (u : TM) (H : Heap) (locs : List Loc) (ls : Array Slot), RR C u → va_P D vwCl (LB cT g gm C u).flatten H → va_S (fun q : Nat => s.heap.size ≤ q) s.heap H locs → lv_has ls 4 [(0, .ref b), (1, .ref (g 0)), (2, .ref (gm 0)), (3, .int i)] → W p l e room_1 s m #[Value.ref b] below meth c H locs 600000 7302250 (lw_Z below #[Value.ref b] s) (F0 m 806 ls [])) {C : TC} {u : TM} {H : Heap} {locs : List Loc} {ls : Array Slot} (hR : RR C u) (hP : va_P D vwCl (LB cT g gm C u).flatten H) (hS : va_S (fun q : Nat => s.heap.size ≤ q) s.heap H locs) (hl : lv_has ls 4 [(0, .ref b), (1, .ref (g 0)), (2, .ref (gm 0)), (3, .int i)]) : W p l e room_1 s m #[Value.ref b] below meth c H locs 600000 7302250 (lw_Z below #[Value.ref b] s) (F0 m 269 ls []) := by
  obtain ⟨hx, hb, hr, hml, hown, hts, hX, hbl, hlocks, hgv⟩ := C0
  have hA : ∀ q : Nat, s.heap.size ≤ q → (fun q : Nat => s.heap.size ≤ q) q := fun _ h => h
  have hbA : ¬ (fun q : Nat => s.heap.size ≤ q) b := Nat.not_le.mpr hbl
  obtain ⟨o, o', ho, ho', he, hR'⟩ := hop C u  hR
  refine lv_aload_n hx hb dL_law_269 rfl (lv_at hl 1 rfl) ?_
  refine cl_iL [0, 1, 3, 5, 6, 7, 8, 9, 10, 11, 12] [2, 4, 13, 14, 15, 16, 17] [wT g, wS cT g 1 o.2.1, wV cT g 9 1 (C_sv C), wS cT g 13 o.2.2.1, wV cT g 21 13 (C_ts C), wH cT g 25 o.2.2.2.1, wS cT g 27 o.2.2.2.2.1, wS cT g 35 o.2.2.2.2.2.1, wS cT g 43 o.2.2.2.2.2.2.1, wS cT g 51 o.2.2.2.2.2.2.2.1, wS cT g 59 o.2.2.2.2.2.2.2.2.1, wS cT g 67 o.2.2.2.2.2.2.2.2.2.1, wX cT g 75 o.2.2.2.2.2.2.2.2.2.2, wI cT g 77, wK cT g 94 (C_kp C), wS cT g 78 (C_i0 C), wS cT g 86 (C_i1 C), wM cT gm 0 u] hP (va_D_adr hD (hadr _ _)) hA hS (va_runV (As := []) (rest := []) ⟨hx, hb, hml, hown, hts⟩ (c_X4_load l D cT g fu (C_now C) (C_tr C) (C_hi C) (C_r0 C) (C_r1 C) (C_r2 C) (C_r3 C) (C_r4 C) (C_r5 C) (C_tx C)  o ho _) (cwV 0 hts (goodIn_app (goodIn_r _ [285, 286, 287, 44] (by decide +kernel) (by decide +kernel)) gl_X4_load) rfl rfl rfl (by decide +kernel) ⟨Nat.le_of_ble_eq_true rfl, Nat.le_of_ble_eq_true rfl⟩) ⟨PRE_blind, va_recv hK hP (ci := 4) (q0 := 0) rfl rfl, PRE_ok [0, 1, 3, 5, 6, 7, 8, 9, 10, 11, 12] (by decide) hP (va_D_adr hD (hadr _ _)) hA hS hK hN hZ⟩ rfl rfl hl.1 rfl (lv_room (Nat.le_of_ble_eq_true rfl)) dL_law_270 ⟨Nat.le_of_ble_eq_true rfl, Nat.le_of_ble_eq_true rfl⟩) rfl 18 rfl (by decide) (by decide) (fun H locs hP hS => ?_)
  replace hP : va_P D vwCl (LB cT g gm (C_tx_ (C_r5_ (C_r4_ (C_r3_ (C_r2_ (C_r1_ (C_r0_ (C_hi_ (C_tr_ (C_now_ C o.2.1) o.2.2.1) o.2.2.2.1) o.2.2.2.2.1) o.2.2.2.2.2.1) o.2.2.2.2.2.2.1) o.2.2.2.2.2.2.2.1) o.2.2.2.2.2.2.2.2.1) o.2.2.2.2.2.2.2.2.2.1) o.2.2.2.2.2.2.2.2.2.2) u).flatten H := hP
  refine lv_aload_n hx hb dL_law_273 rfl (lv_at hl 2 rfl) ?_
  refine cl_iL [17] [0, 1, 2, 3, 4, 5, 6, 7, 8, 9, 10, 11, 12, 13, 14, 15, 16] [wT g, wS cT g 1 o.2.1, wV cT g 9 1 (C_sv C), wS cT g 13 o.2.2.1, wV cT g 21 13 (C_ts C), wH cT g 25 o.2.2.2.1, wS cT g 27 o.2.2.2.2.1, wS cT g 35 o.2.2.2.2.2.1, wS cT g 43 o.2.2.2.2.2.2.1, wS cT g 51 o.2.2.2.2.2.2.2.1, wS cT g 59 o.2.2.2.2.2.2.2.2.1, wS cT g 67 o.2.2.2.2.2.2.2.2.2.1, wX cT g 75 o.2.2.2.2.2.2.2.2.2.2, wI cT g 77, wK cT g 94 (C_kp C), wS cT g 78 (C_i0 C), wS cT g 86 (C_i1 C), wM cT gm 0 o'.2] hP (va_D_adr hD (hadr _ _)) hA hS (va_runV (As := []) (rest := [.int o.1]) ⟨hx, hb, hml, hown, hts⟩ (c_X5_load l D cT gm 0 fu u  o' ho' _) (cwV 0 hts (goodIn_app (goodIn_r _ [630, 631, 632, 50] (by decide +kernel) (by decide +kernel)) gl_X5_load) rfl rfl rfl (by decide +kernel) ⟨Nat.le_of_ble_eq_true rfl, Nat.le_of_ble_eq_true rfl⟩) ⟨PRE_blind, va_recv hK hP (ci := 5) (q0 := 95) rfl rfl, PRE_ok [17] (by decide) hP (va_D_adr hD (hadr _ _)) hA hS hK hN hZ⟩ rfl rfl hl.1 rfl (lv_room (Nat.le_of_ble_eq_true rfl)) dL_law_274 ⟨Nat.le_of_ble_eq_true rfl, Nat.le_of_ble_eq_true rfl⟩) rfl 18 rfl (by decide) (by decide) (fun H locs hP hS => ?_)
  replace hP : va_P D vwCl (LB cT g gm (C_tx_ (C_r5_ (C_r4_ (C_r3_ (C_r2_ (C_r1_ (C_r0_ (C_hi_ (C_tr_ (C_now_ C o.2.1) o.2.2.1) o.2.2.2.1) o.2.2.2.2.1) o.2.2.2.2.2.1) o.2.2.2.2.2.2.1) o.2.2.2.2.2.2.2.1) o.2.2.2.2.2.2.2.2.1) o.2.2.2.2.2.2.2.2.2.1) o.2.2.2.2.2.2.2.2.2.2) o'.2).flatten H := hP
  refine lv_icmp_eq (tgt := 806) hx hb dL_law_277 (by decide) (fun _ => ?_) (fun h9 => absurd he h9)
  exact kk _ _ _ _ _ hR' hP hS hl
set_option maxHeartbeats 4000000 in
set_option maxRecDepth 100000 in
theorem lc_renew {p : Program} {l : Launch} {e : Env} {s : State} {m : MethodId} {below : List Frame} {meth : Method} {c : Code} {D : va_G} {cT : Nat → ClassId} {b L : Nat} {xs : Nat → Int32} {g gm : Nat → Nat} {RR : TC → TM → Prop} {fu : Nat} {B0 : List va_W} (C0 : lw_At p s m meth c b L xs) (hK : va_K D vwCl (ty4 cT) s) (hN : NWs s) (hZ : STs (fun q : Nat => s.heap.size ≤ q) s s.heap) (hD : va_D (fun q : Nat => s.heap.size ≤ q) B0.flatten) (hadr : ∀ (C : TC) (u : TM), adr (LB cT g gm C u).flatten = adr B0.flatten) (hop : OP_renew RR fu) {i : Int32} (h1 : vp_in (i + 1) L) (h2 : vp_in (i + 2) L) (h3 : vp_in (i + 3) L) (kk : ∀ (C : TC) (u : TM) (H : Heap) (locs : List Loc) (ls : Array Slot), RR C u → va_P D vwCl (LB cT g gm C u).flatten H → va_S (fun q : Nat => s.heap.size ≤ q) s.heap H locs → lv_has ls 4 [(0, .ref b), (1, .ref (g 0)), (2, .ref (gm 0)), (3, .int i)] → W p l e room_1 s m #[Value.ref b] below meth c H locs 600000 7302250 (lw_Z below #[Value.ref b] s) (F0 m 806 ls [])) {C : TC} {u : TM} {H : Heap} {locs : List Loc} {ls : Array Slot} (hR : RR C u) (hP : va_P D vwCl (LB cT g gm C u).flatten H) (hS : va_S (fun q : Nat => s.heap.size ≤ q) s.heap H locs) (hl : lv_has ls 4 [(0, .ref b), (1, .ref (g 0)), (2, .ref (gm 0)), (3, .int i)]) : W p l e room_1 s m #[Value.ref b] below meth c H locs 600000 7302250 (lw_Z below #[Value.ref b] s) (F0 m 282 ls []) := by
  obtain ⟨hx, hb, hr, hml, hown, hts, hX, hbl, hlocks, hgv⟩ := C0
  have hA : ∀ q : Nat, s.heap.size ≤ q → (fun q : Nat => s.heap.size ≤ q) q := fun _ h => h
  have hbA : ¬ (fun q : Nat => s.heap.size ≤ q) b := Nat.not_le.mpr hbl
  obtain ⟨o, o', ho, ho', he, hR'⟩ := hop C u (xs (i + 1).toNatClampNeg) (xs (i + 2).toNatClampNeg) hR
  refine lv_aload_n hx hb dL_law_282 rfl (lv_at hl 1 rfl) ?_
  refine lv_aload_n hx hb dL_law_283 rfl (lv_at hl 0 rfl) ?_
  refine lv_iload_n hx hb dL_law_284 rfl (lv_at hl 3 rfl) ?_
  refine lv_iconst (v := 1) hx hb dL_law_285 (by decide) ?_
  refine lv_iadd hx hb dL_law_286 ?_
  refine va_sld hx hb hX hbl hbA hS h1 dL_law_287 ?_
  refine lv_aload_n hx hb dL_law_288 rfl (lv_at hl 0 rfl) ?_
  refine lv_iload_n hx hb dL_law_289 rfl (lv_at hl 3 rfl) ?_
  refine lv_iconst (v := 2) hx hb dL_law_290 (by decide) ?_
  refine lv_iadd hx hb dL_law_291 ?_
  refine va_sld hx hb hX hbl hbA hS h2 dL_law_292 ?_
  refine cl_iL [0, 1, 5, 6, 7, 8, 9, 10, 11] [2, 3, 4, 12, 13, 14, 15, 16, 17] [wT g, wS cT g 1 o.2.1, wV cT g 9 1 (C_sv C), wS cT g 13 (C_tr C), wV cT g 21 13 (C_ts C), wH cT g 25 o.2.2.1, wS cT g 27 o.2.2.2.1, wS cT g 35 o.2.2.2.2.1, wS cT g 43 o.2.2.2.2.2.1, wS cT g 51 o.2.2.2.2.2.2.1, wS cT g 59 o.2.2.2.2.2.2.2.1, wS cT g 67 o.2.2.2.2.2.2.2.2, wX cT g 75 (C_tx C), wI cT g 77, wK cT g 94 (C_kp C), wS cT g 78 (C_i0 C), wS cT g 86 (C_i1 C), wM cT gm 0 u] hP (va_D_adr hD (hadr _ _)) hA hS (va_runV (As := [.int (xs (i + 1).toNatClampNeg), .int (xs (i + 2).toNatClampNeg)]) (rest := []) ⟨hx, hb, hml, hown, hts⟩ (c_X4_renew l D cT g fu (C_now C) (C_hi C) (C_r0 C) (C_r1 C) (C_r2 C) (C_r3 C) (C_r4 C) (C_r5 C) (xs (i + 1).toNatClampNeg) (xs (i + 2).toNatClampNeg) o ho _) (cwV 2 hts (goodIn_app (goodIn_r _ [327, 328, 329, 44] (by decide +kernel) (by decide +kernel)) gl_X4_renew) rfl rfl rfl (by decide +kernel) ⟨Nat.le_of_ble_eq_true rfl, Nat.le_of_ble_eq_true rfl⟩) ⟨PRE_blind, va_recv hK hP (ci := 4) (q0 := 0) rfl rfl, PRE_ok [0, 1, 5, 6, 7, 8, 9, 10, 11] (by decide) hP (va_D_adr hD (hadr _ _)) hA hS hK hN hZ⟩ rfl rfl hl.1 rfl (lv_room (Nat.le_of_ble_eq_true rfl)) dL_law_293 ⟨Nat.le_of_ble_eq_true rfl, Nat.le_of_ble_eq_true rfl⟩) rfl 18 rfl (by decide) (by decide) (fun H locs hP hS => ?_)
  replace hP : va_P D vwCl (LB cT g gm (C_r5_ (C_r4_ (C_r3_ (C_r2_ (C_r1_ (C_r0_ (C_hi_ (C_now_ C o.2.1) o.2.2.1) o.2.2.2.1) o.2.2.2.2.1) o.2.2.2.2.2.1) o.2.2.2.2.2.2.1) o.2.2.2.2.2.2.2.1) o.2.2.2.2.2.2.2.2) u).flatten H := hP
  refine lv_aload_n hx hb dL_law_296 rfl (lv_at hl 2 rfl) ?_
  refine lv_aload_n hx hb dL_law_297 rfl (lv_at hl 0 rfl) ?_
  refine lv_iload_n hx hb dL_law_298 rfl (lv_at hl 3 rfl) ?_
  refine lv_iconst (v := 1) hx hb dL_law_299 (by decide) ?_
  refine lv_iadd hx hb dL_law_300 ?_
  refine va_sld hx hb hX hbl hbA hS h1 dL_law_301 ?_
  refine lv_aload_n hx hb dL_law_302 rfl (lv_at hl 0 rfl) ?_
  refine lv_iload_n hx hb dL_law_303 rfl (lv_at hl 3 rfl) ?_
  refine lv_iconst (v := 2) hx hb dL_law_304 (by decide) ?_
  refine lv_iadd hx hb dL_law_305 ?_
  refine va_sld hx hb hX hbl hbA hS h2 dL_law_306 ?_
  refine cl_iL [17] [0, 1, 2, 3, 4, 5, 6, 7, 8, 9, 10, 11, 12, 13, 14, 15, 16] [wT g, wS cT g 1 o.2.1, wV cT g 9 1 (C_sv C), wS cT g 13 (C_tr C), wV cT g 21 13 (C_ts C), wH cT g 25 o.2.2.1, wS cT g 27 o.2.2.2.1, wS cT g 35 o.2.2.2.2.1, wS cT g 43 o.2.2.2.2.2.1, wS cT g 51 o.2.2.2.2.2.2.1, wS cT g 59 o.2.2.2.2.2.2.2.1, wS cT g 67 o.2.2.2.2.2.2.2.2, wX cT g 75 (C_tx C), wI cT g 77, wK cT g 94 (C_kp C), wS cT g 78 (C_i0 C), wS cT g 86 (C_i1 C), wM cT gm 0 o'.2] hP (va_D_adr hD (hadr _ _)) hA hS (va_runV (As := [.int (xs (i + 1).toNatClampNeg), .int (xs (i + 2).toNatClampNeg)]) (rest := [.int o.1]) ⟨hx, hb, hml, hown, hts⟩ (c_X5_renew l D cT gm 0 fu u (xs (i + 1).toNatClampNeg) (xs (i + 2).toNatClampNeg) o' ho' _) (cwV 2 hts (goodIn_app (goodIn_r _ [659, 660, 661, 50] (by decide +kernel) (by decide +kernel)) gl_X5_renew) rfl rfl rfl (by decide +kernel) ⟨Nat.le_of_ble_eq_true rfl, Nat.le_of_ble_eq_true rfl⟩) ⟨PRE_blind, va_recv hK hP (ci := 5) (q0 := 95) rfl rfl, PRE_ok [17] (by decide) hP (va_D_adr hD (hadr _ _)) hA hS hK hN hZ⟩ rfl rfl hl.1 rfl (lv_room (Nat.le_of_ble_eq_true rfl)) dL_law_307 ⟨Nat.le_of_ble_eq_true rfl, Nat.le_of_ble_eq_true rfl⟩) rfl 18 rfl (by decide) (by decide) (fun H locs hP hS => ?_)
  replace hP : va_P D vwCl (LB cT g gm (C_r5_ (C_r4_ (C_r3_ (C_r2_ (C_r1_ (C_r0_ (C_hi_ (C_now_ C o.2.1) o.2.2.1) o.2.2.2.1) o.2.2.2.2.1) o.2.2.2.2.2.1) o.2.2.2.2.2.2.1) o.2.2.2.2.2.2.2.1) o.2.2.2.2.2.2.2.2) o'.2).flatten H := hP
  refine lv_icmp_eq (tgt := 806) hx hb dL_law_310 (by decide) (fun _ => ?_) (fun h9 => absurd he h9)
  exact kk _ _ _ _ _ hR' hP hS hl
set_option maxHeartbeats 4000000 in
set_option maxRecDepth 100000 in
theorem lc_addJob {p : Program} {l : Launch} {e : Env} {s : State} {m : MethodId} {below : List Frame} {meth : Method} {c : Code} {D : va_G} {cT : Nat → ClassId} {b L : Nat} {xs : Nat → Int32} {g gm : Nat → Nat} {RR : TC → TM → Prop} {fu : Nat} {B0 : List va_W} (C0 : lw_At p s m meth c b L xs) (hK : va_K D vwCl (ty4 cT) s) (hN : NWs s) (hZ : STs (fun q : Nat => s.heap.size ≤ q) s s.heap) (hD : va_D (fun q : Nat => s.heap.size ≤ q) B0.flatten) (hadr : ∀ (C : TC) (u : TM), adr (LB cT g gm C u).flatten = adr B0.flatten) (hop : OP_addJob RR fu) {i : Int32} (h1 : vp_in (i + 1) L) (h2 : vp_in (i + 2) L) (h3 : vp_in (i + 3) L) (kk : ∀ (C : TC) (u : TM) (H : Heap) (locs : List Loc) (ls : Array Slot), RR C u → va_P D vwCl (LB cT g gm C u).flatten H → va_S (fun q : Nat => s.heap.size ≤ q) s.heap H locs → lv_has ls 4 [(0, .ref b), (1, .ref (g 0)), (2, .ref (gm 0)), (3, .int i)] → W p l e room_1 s m #[Value.ref b] below meth c H locs 600000 7302250 (lw_Z below #[Value.ref b] s) (F0 m 806 ls [])) {C : TC} {u : TM} {H : Heap} {locs : List Loc} {ls : Array Slot} (hR : RR C u) (hP : va_P D vwCl (LB cT g gm C u).flatten H) (hS : va_S (fun q : Nat => s.heap.size ≤ q) s.heap H locs) (hl : lv_has ls 4 [(0, .ref b), (1, .ref (g 0)), (2, .ref (gm 0)), (3, .int i)]) : W p l e room_1 s m #[Value.ref b] below meth c H locs 600000 7302250 (lw_Z below #[Value.ref b] s) (F0 m 315 ls []) := by
  obtain ⟨hx, hb, hr, hml, hown, hts, hX, hbl, hlocks, hgv⟩ := C0
  have hA : ∀ q : Nat, s.heap.size ≤ q → (fun q : Nat => s.heap.size ≤ q) q := fun _ h => h
  have hbA : ¬ (fun q : Nat => s.heap.size ≤ q) b := Nat.not_le.mpr hbl
  obtain ⟨o, o', ho, ho', he, hR'⟩ := hop C u (xs (i + 1).toNatClampNeg) (xs (i + 2).toNatClampNeg) (xs (i + 3).toNatClampNeg) hR
  refine lv_aload_n hx hb dL_law_315 rfl (lv_at hl 1 rfl) ?_
  refine lv_aload_n hx hb dL_law_316 rfl (lv_at hl 0 rfl) ?_
  refine lv_iload_n hx hb dL_law_317 rfl (lv_at hl 3 rfl) ?_
  refine lv_iconst (v := 1) hx hb dL_law_318 (by decide) ?_
  refine lv_iadd hx hb dL_law_319 ?_
  refine va_sld hx hb hX hbl hbA hS h1 dL_law_320 ?_
  refine lv_aload_n hx hb dL_law_321 rfl (lv_at hl 0 rfl) ?_
  refine lv_iload_n hx hb dL_law_322 rfl (lv_at hl 3 rfl) ?_
  refine lv_iconst (v := 2) hx hb dL_law_323 (by decide) ?_
  refine lv_iadd hx hb dL_law_324 ?_
  refine va_sld hx hb hX hbl hbA hS h2 dL_law_325 ?_
  refine lv_aload_n hx hb dL_law_326 rfl (lv_at hl 0 rfl) ?_
  refine lv_iload_n hx hb dL_law_327 rfl (lv_at hl 3 rfl) ?_
  refine lv_iconst (v := 3) hx hb dL_law_328 (by decide) ?_
  refine lv_iadd hx hb dL_law_329 ?_
  refine va_sld hx hb hX hbl hbA hS h3 dL_law_330 ?_
  refine cl_iL [0, 1, 5, 6, 7, 8, 9, 10, 11] [2, 3, 4, 12, 13, 14, 15, 16, 17] [wT g, wS cT g 1 o.2.1, wV cT g 9 1 (C_sv C), wS cT g 13 (C_tr C), wV cT g 21 13 (C_ts C), wH cT g 25 o.2.2.1, wS cT g 27 o.2.2.2.1, wS cT g 35 o.2.2.2.2.1, wS cT g 43 o.2.2.2.2.2.1, wS cT g 51 o.2.2.2.2.2.2.1, wS cT g 59 o.2.2.2.2.2.2.2.1, wS cT g 67 o.2.2.2.2.2.2.2.2, wX cT g 75 (C_tx C), wI cT g 77, wK cT g 94 (C_kp C), wS cT g 78 (C_i0 C), wS cT g 86 (C_i1 C), wM cT gm 0 u] hP (va_D_adr hD (hadr _ _)) hA hS (va_runV (As := [.int (xs (i + 1).toNatClampNeg), .int (xs (i + 2).toNatClampNeg), .int (xs (i + 3).toNatClampNeg)]) (rest := []) ⟨hx, hb, hml, hown, hts⟩ (c_X4_addJob l D cT g fu (C_now C) (C_hi C) (C_r0 C) (C_r1 C) (C_r2 C) (C_r3 C) (C_r4 C) (C_r5 C) (xs (i + 1).toNatClampNeg) (xs (i + 2).toNatClampNeg) (xs (i + 3).toNatClampNeg) o ho _) (cwV 3 hts (goodIn_app (goodIn_r _ [335, 336, 337, 44] (by decide +kernel) (by decide +kernel)) gl_X4_addJob) rfl rfl rfl (by decide +kernel) ⟨Nat.le_of_ble_eq_true rfl, Nat.le_of_ble_eq_true rfl⟩) ⟨PRE_blind, va_recv hK hP (ci := 4) (q0 := 0) rfl rfl, PRE_ok [0, 1, 5, 6, 7, 8, 9, 10, 11] (by decide) hP (va_D_adr hD (hadr _ _)) hA hS hK hN hZ⟩ rfl rfl hl.1 rfl (lv_room (Nat.le_of_ble_eq_true rfl)) dL_law_331 ⟨Nat.le_of_ble_eq_true rfl, Nat.le_of_ble_eq_true rfl⟩) rfl 18 rfl (by decide) (by decide) (fun H locs hP hS => ?_)
  replace hP : va_P D vwCl (LB cT g gm (C_r5_ (C_r4_ (C_r3_ (C_r2_ (C_r1_ (C_r0_ (C_hi_ (C_now_ C o.2.1) o.2.2.1) o.2.2.2.1) o.2.2.2.2.1) o.2.2.2.2.2.1) o.2.2.2.2.2.2.1) o.2.2.2.2.2.2.2.1) o.2.2.2.2.2.2.2.2) u).flatten H := hP
  refine lv_aload_n hx hb dL_law_334 rfl (lv_at hl 2 rfl) ?_
  refine lv_aload_n hx hb dL_law_335 rfl (lv_at hl 0 rfl) ?_
  refine lv_iload_n hx hb dL_law_336 rfl (lv_at hl 3 rfl) ?_
  refine lv_iconst (v := 1) hx hb dL_law_337 (by decide) ?_
  refine lv_iadd hx hb dL_law_338 ?_
  refine va_sld hx hb hX hbl hbA hS h1 dL_law_339 ?_
  refine lv_aload_n hx hb dL_law_340 rfl (lv_at hl 0 rfl) ?_
  refine lv_iload_n hx hb dL_law_341 rfl (lv_at hl 3 rfl) ?_
  refine lv_iconst (v := 2) hx hb dL_law_342 (by decide) ?_
  refine lv_iadd hx hb dL_law_343 ?_
  refine va_sld hx hb hX hbl hbA hS h2 dL_law_344 ?_
  refine lv_aload_n hx hb dL_law_345 rfl (lv_at hl 0 rfl) ?_
  refine lv_iload_n hx hb dL_law_346 rfl (lv_at hl 3 rfl) ?_
  refine lv_iconst (v := 3) hx hb dL_law_347 (by decide) ?_
  refine lv_iadd hx hb dL_law_348 ?_
  refine va_sld hx hb hX hbl hbA hS h3 dL_law_349 ?_
  refine cl_iL [17] [0, 1, 2, 3, 4, 5, 6, 7, 8, 9, 10, 11, 12, 13, 14, 15, 16] [wT g, wS cT g 1 o.2.1, wV cT g 9 1 (C_sv C), wS cT g 13 (C_tr C), wV cT g 21 13 (C_ts C), wH cT g 25 o.2.2.1, wS cT g 27 o.2.2.2.1, wS cT g 35 o.2.2.2.2.1, wS cT g 43 o.2.2.2.2.2.1, wS cT g 51 o.2.2.2.2.2.2.1, wS cT g 59 o.2.2.2.2.2.2.2.1, wS cT g 67 o.2.2.2.2.2.2.2.2, wX cT g 75 (C_tx C), wI cT g 77, wK cT g 94 (C_kp C), wS cT g 78 (C_i0 C), wS cT g 86 (C_i1 C), wM cT gm 0 o'.2] hP (va_D_adr hD (hadr _ _)) hA hS (va_runV (As := [.int (xs (i + 1).toNatClampNeg), .int (xs (i + 2).toNatClampNeg), .int (xs (i + 3).toNatClampNeg)]) (rest := [.int o.1]) ⟨hx, hb, hml, hown, hts⟩ (c_X5_addJob l D cT gm 0 fu u (xs (i + 1).toNatClampNeg) (xs (i + 2).toNatClampNeg) (xs (i + 3).toNatClampNeg) o' ho' _) (cwV 3 hts (goodIn_app (goodIn_r _ [663, 664, 665, 50] (by decide +kernel) (by decide +kernel)) gl_X5_addJob) rfl rfl rfl (by decide +kernel) ⟨Nat.le_of_ble_eq_true rfl, Nat.le_of_ble_eq_true rfl⟩) ⟨PRE_blind, va_recv hK hP (ci := 5) (q0 := 95) rfl rfl, PRE_ok [17] (by decide) hP (va_D_adr hD (hadr _ _)) hA hS hK hN hZ⟩ rfl rfl hl.1 rfl (lv_room (Nat.le_of_ble_eq_true rfl)) dL_law_350 ⟨Nat.le_of_ble_eq_true rfl, Nat.le_of_ble_eq_true rfl⟩) rfl 18 rfl (by decide) (by decide) (fun H locs hP hS => ?_)
  replace hP : va_P D vwCl (LB cT g gm (C_r5_ (C_r4_ (C_r3_ (C_r2_ (C_r1_ (C_r0_ (C_hi_ (C_now_ C o.2.1) o.2.2.1) o.2.2.2.1) o.2.2.2.2.1) o.2.2.2.2.2.1) o.2.2.2.2.2.2.1) o.2.2.2.2.2.2.2.1) o.2.2.2.2.2.2.2.2) o'.2).flatten H := hP
  refine lv_icmp_eq (tgt := 806) hx hb dL_law_353 (by decide) (fun _ => ?_) (fun h9 => absurd he h9)
  exact kk _ _ _ _ _ hR' hP hS hl
