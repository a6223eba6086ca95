set_option maxHeartbeats 4000000 in
set_option maxRecDepth 100000 in
theorem law_loop {p : Program} {l : Launch} {e : Env} {s : State} {m : MethodId} {below : List Frame} {meth : Method} {c : Code} {D : va_G} {cT : Nat → ClassId} {b L : Nat} {xs : Nat → Int32} {g gm : Nat → Nat} {RR : TC → TM → Prop} {fu : Nat} {B0 : List va_W} (hL : L ≤ 2048) (C0 : lw_At p s m meth c b L xs) (hK : va_K D vwCl (ty4 cT) s) (hN : NWs s) (hZ : STs (fun q : Nat => s.heap.size ≤ q) s s.heap) (hD : va_D (fun q : Nat => s.heap.size ≤ q) B0.flatten) (hadr : ∀ (C : TC) (u : TM), adr (LB cT g gm C u).flatten = adr B0.flatten) (o_begin : OP_begin RR fu) (o_setNumber : OP_setNumber RR fu) (o_setLevel : OP_setLevel RR fu) (o_appendCharacter : OP_appendCharacter RR fu) (o_clearText : OP_clearText RR fu) (o_load : OP_load RR fu) (o_renew : OP_renew RR fu) (o_addJob : OP_addJob RR fu) (o_cancelJobs : OP_cancelJobs RR fu) (o_work : OP_work RR fu) (o_trains : OP_trains RR fu) (o_keep : OP_keep RR fu) (o_back : OP_back RR fu) (o_undo : OP_undo RR fu) (o_count : OP_count RR fu) (o_sleeper : OP_sleeper RR fu) (o_job : OP_job RR fu) (o_account : OP_account RR fu) (o_rail : OP_rail RR fu) (o_why : OP_why RR fu) (o_lifts : OP_lifts RR fu) (o_trainsUntil : OP_trainsUntil RR fu) (o_bestRow : OP_bestRow RR fu) (o_minutesLeft : OP_minutesLeft RR fu) : ∀ (n k : Nat), L < k + n → k ≤ L + 4 → ∀ (C : TC) (u : TM) (H : Heap) (locs : List Loc) (ls : Array Slot), RR C u → va_P D vwCl (LB cT g gm C u).flatten H → va_S (fun q : Nat => s.heap.size ≤ q) s.heap H locs → lv_has ls 4 [(0, .ref b), (1, .ref (g 0)), (2, .ref (gm 0)), (3, .int (nI k))] → W p l e room_1 s m #[Value.ref b] below meth c H locs 600000 7302250 (lw_Z below #[Value.ref b] s) (F0 m 18 ls []) := by
  have C1 := C0
  obtain ⟨hx, hb, hr, hml, hown, hts, hX, hbl, hlocks, hgv⟩ := C0
  have hbA : ¬ (fun q : Nat => s.heap.size ≤ q) b := Nat.not_le.mpr hbl
  intro n
  induction n with
  | zero =>
    intro k h1 h2
    intro C u H locs ls hR hP hS hl
    refine lv_iload_n hx hb dL_law_18 rfl (lv_at hl 3 rfl) ?_
    refine lv_aload_n hx hb dL_law_19 rfl (lv_at hl 0 rfl) ?_
    refine va_slen hx hb hX hbl hbA hS dL_law_20 ?_
    refine lv_iconst (v := 4) hx hb dL_law_21 (by decide) ?_
    refine lv_isub hx hb dL_law_22 ?_
    refine lv_icmp_gt (tgt := 812) hx hb dL_law_23 (by decide) (fun h9 => ?_) (fun h9 => ?_)
    · refine lv_iconst (v := 1) hx hb dL_law_812 (by decide) ?_
      refine va_forget (fun q hq => hS.2.2 q hq) ?_
      exact lw_ret hx hb hr hlocks dL_law_813
    · exfalso
      apply h9
      exact lx_gt (by omega) (by omega) (by omega)
  | succ n ih =>
    intro k h1 h2 C u H locs ls hR hP hS hl
    refine lv_iload_n hx hb dL_law_18 rfl (lv_at hl 3 rfl) ?_
    refine lv_aload_n hx hb dL_law_19 rfl (lv_at hl 0 rfl) ?_
    refine va_slen hx hb hX hbl hbA hS dL_law_20 ?_
    refine lv_iconst (v := 4) hx hb dL_law_21 (by decide) ?_
    refine lv_isub hx hb dL_law_22 ?_
    refine lv_icmp_gt (tgt := 812) hx hb dL_law_23 (by decide) (fun h9 => ?_) (fun h9 => ?_)
    · refine lv_iconst (v := 1) hx hb dL_law_812 (by decide) ?_
      refine va_forget (fun q hq => hS.2.2 q hq) ?_
      exact lw_ret hx hb hr hlocks dL_law_813
    · have h4 : k + 4 ≤ L := lx_le h9 (by omega) (by omega)
      have hk : vp_in (nI k) L := vp_in_nI (by omega) (by omega)
      have hk1 : vp_in (nI k + 1) L := by rw [show (nI k + 1 : Int32) = nI (k + 1) from nI_add k 1]; exact vp_in_nI (by omega) (by omega)
      have hk2 : vp_in (nI k + 2) L := by rw [show (nI k + 2 : Int32) = nI (k + 2) from nI_add k 2]; exact vp_in_nI (by omega) (by omega)
      have hk3 : vp_in (nI k + 3) L := by rw [show (nI k + 3 : Int32) = nI (k + 3) from nI_add k 3]; exact vp_in_nI (by omega) (by omega)
      have nxt : ∀ (C : TC) (u : TM) (H : Heap) (locs : List Loc) (ls : Array Slot), RR C u → va_P D vwCl (LB cT g gm C u).flatten H → va_S (fun q : Nat => s.heap.size ≤ q) s.heap H locs → lv_has ls 4 [(0, .ref b), (1, .ref (g 0)), (2, .ref (gm 0)), (3, .int (nI k))] → W p l e room_1 s m #[Value.ref b] below meth c H locs 600000 7302250 (lw_Z below #[Value.ref b] s) (F0 m 806 ls []) := by
        intro C u H locs ls hR hP hS hl
        refine lv_iinc (v := nI (k + 4)) (lv' := [(3, .int (nI (k + 4))), (0, .ref b), (1, .ref (g 0)), (2, .ref (gm 0))]) hx hb dL_law_806 hl (k := 3) rfl (nI_add k 4) (by decide) rfl (fun ls hl => ?_)
        refine lv_goto (tgt := 18) hx hb dL_law_809 (by decide) ?_
        exact ih (k + 4) (by omega) (by omega) C u H locs ls hR hP hS (lv_sub hl [1, 2, 3, 0] rfl)
      refine lv_aload_n hx hb dL_law_26 rfl (lv_at hl 0 rfl) ?_
      refine lv_iload_n hx hb dL_law_27 rfl (lv_at hl 3 rfl) ?_
      refine va_sld hx hb hX hbl hbA hS hk dL_law_28 ?_
      refine lv_bipush (v := 31) hx hb dL_law_29 (by decide) ?_
      refine lv_iand hx hb dL_law_31 ?_
      refine lv_topi (fun x ex => ?_)
      by_cases c0 : x = (0 : Int32)
      · refine lv_tableIn (off := 112) (tgt := 144) hx hb dL_law_32 (by rw [c0]; decide) (by rw [c0]; decide) (by rw [c0]; rfl) (by decide) ?_
        exact lc_begin C1 hK hN hZ hD hadr o_begin hk1 hk2 hk3 nxt hR hP hS hl
      by_cases c1 : x = (1 : Int32)
      · refine lv_tableIn (off := 135) (tgt := 167) hx hb dL_law_32 (by rw [c1]; decide) (by rw [c1]; decide) (by rw [c1]; rfl) (by decide) ?_
        exact lc_setNumber C1 hK hN hZ hD hadr o_setNumber hk1 hk2 hk3 nxt hR hP hS hl
      by_cases c2 : x = (2 : Int32)
      · refine lv_tableIn (off := 168) (tgt := 200) hx hb dL_law_32 (by rw [c2]; decide) (by rw [c2]; decide) (by rw [c2]; rfl) (by decide) ?_
        exact lc_setLevel C1 hK hN hZ hD hadr o_setLevel hk1 hk2 hk3 nxt hR hP hS hl
      by_cases c3 : x = (3 : Int32)
      · refine lv_tableIn (off := 201) (tgt := 233) hx hb dL_law_32 (by rw [c3]; decide) (by rw [c3]; decide) (by rw [c3]; rfl) (by decide) ?_
        exact lc_appendCharacter C1 hK hN hZ hD hadr o_appendCharacter hk1 hk2 hk3 nxt hR hP hS hl
      by_cases c4 : x = (4 : Int32)
      · refine lv_tableIn (off := 224) (tgt := 256) hx hb dL_law_32 (by rw [c4]; decide) (by rw [c4]; decide) (by rw [c4]; rfl) (by decide) ?_
        exact lc_clearText C1 hK hN hZ hD hadr o_clearText hk1 hk2 hk3 nxt hR hP hS hl
      by_cases c5 : x = (5 : Int32)
      · refine lv_tableIn (off := 237) (tgt := 269) hx hb dL_law_32 (by rw [c5]; decide) (by rw [c5]; decide) (by rw [c5]; rfl) (by decide) ?_
        exact lc_load C1 hK hN hZ hD hadr o_load hk1 hk2 hk3 nxt hR hP hS hl
      by_cases c6 : x = (6 : Int32)
      · refine lv_tableIn (off := 250) (tgt := 282) hx hb dL_law_32 (by rw [c6]; decide) (by rw [c6]; decide) (by rw [c6]; rfl) (by decide) ?_
        exact lc_renew C1 hK hN hZ hD hadr o_renew hk1 hk2 hk3 nxt hR hP hS hl
      by_cases c7 : x = (7 : Int32)
      · refine lv_tableIn (off := 283) (tgt := 315) hx hb dL_law_32 (by rw [c7]; decide) (by rw [c7]; decide) (by rw [c7]; rfl) (by decide) ?_
        exact lc_addJob C1 hK hN hZ hD hadr o_addJob hk1 hk2 hk3 nxt hR hP hS hl
      by_cases c8 : x = (8 : Int32)
      · refine lv_tableIn (off := 326) (tgt := 358) hx hb dL_law_32 (by rw [c8]; decide) (by rw [c8]; decide) (by rw [c8]; rfl) (by decide) ?_
        exact lc_cancelJobs C1 hK hN hZ hD hadr o_cancelJobs hk1 hk2 hk3 nxt hR hP hS hl
      by_cases c9 : x = (9 : Int32)
      · refine lv_tableIn (off := 349) (tgt := 381) hx hb dL_law_32 (by rw [c9]; decide) (by rw [c9]; decide) (by rw [c9]; rfl) (by decide) ?_
        exact lc_work C1 hK hN hZ hD hadr o_work hk1 hk2 hk3 nxt hR hP hS hl
      by_cases c10 : x = (10 : Int32)
      · refine lv_tableIn (off := 372) (tgt := 404) hx hb dL_law_32 (by rw [c10]; decide) (by rw [c10]; decide) (by rw [c10]; rfl) (by decide) ?_
        exact lc_trains C1 hK hN hZ hD hadr o_trains hk1 hk2 hk3 nxt hR hP hS hl
      by_cases c11 : x = (11 : Int32)
      · refine lv_tableIn (off := 415) (tgt := 447) hx hb dL_law_32 (by rw [c11]; decide) (by rw [c11]; decide) (by rw [c11]; rfl) (by decide) ?_
        exact lc_keep C1 hK hN hZ hD hadr o_keep hk1 hk2 hk3 nxt hR hP hS hl
      by_cases c12 : x = (12 : Int32)
      · refine lv_tableIn (off := 438) (tgt := 470) hx hb dL_law_32 (by rw [c12]; decide) (by rw [c12]; decide) (by rw [c12]; rfl) (by decide) ?_
        exact lc_back C1 hK hN hZ hD hadr o_back hk1 hk2 hk3 nxt hR hP hS hl
      by_cases c13 : x = (13 : Int32)
      · refine lv_tableIn (off := 461) (tgt := 493) hx hb dL_law_32 (by rw [c13]; decide) (by rw [c13]; decide) (by rw [c13]; rfl) (by decide) ?_
        exact lc_undo C1 hK hN hZ hD hadr o_undo hk1 hk2 hk3 nxt hR hP hS hl
      by_cases c14 : x = (14 : Int32)
      · refine lv_tableIn (off := 474) (tgt := 506) hx hb dL_law_32 (by rw [c14]; decide) (by rw [c14]; decide) (by rw [c14]; rfl) (by decide) ?_
        exact lc_count C1 hK hN hZ hD hadr o_count hk1 hk2 hk3 nxt hR hP hS hl
      by_cases c15 : x = (15 : Int32)
      · refine lv_tableIn (off := 497) (tgt := 529) hx hb dL_law_32 (by rw [c15]; decide) (by rw [c15]; decide) (by rw [c15]; rfl) (by decide) ?_
        exact lc_sleeper C1 hK hN hZ hD hadr o_sleeper hk1 hk2 hk3 nxt hR hP hS hl
      by_cases c16 : x = (16 : Int32)
      · refine lv_tableIn (off := 530) (tgt := 562) hx hb dL_law_32 (by rw [c16]; decide) (by rw [c16]; decide) (by rw [c16]; rfl) (by decide) ?_
        exact lc_job C1 hK hN hZ hD hadr o_job hk1 hk2 hk3 nxt hR hP hS hl
      by_cases c17 : x = (17 : Int32)
      · refine lv_tableIn (off := 563) (tgt := 595) hx hb dL_law_32 (by rw [c17]; decide) (by rw [c17]; decide) (by rw [c17]; rfl) (by decide) ?_
        exact lc_account C1 hK hN hZ hD hadr o_account hk1 hk2 hk3 nxt hR hP hS hl
      by_cases c18 : x = (18 : Int32)
      · refine lv_tableIn (off := 586) (tgt := 618) hx hb dL_law_32 (by rw [c18]; decide) (by rw [c18]; decide) (by rw [c18]; rfl) (by decide) ?_
        exact lc_rail C1 hK hN hZ hD hadr o_rail hk1 hk2 hk3 nxt hR hP hS hl
      by_cases c19 : x = (19 : Int32)
      · refine lv_tableIn (off := 619) (tgt := 651) hx hb dL_law_32 (by rw [c19]; decide) (by rw [c19]; decide) (by rw [c19]; rfl) (by decide) ?_
        exact lc_why C1 hK hN hZ hD hadr o_why hk1 hk2 hk3 nxt hR hP hS hl
      by_cases c20 : x = (20 : Int32)
      · refine lv_tableIn (off := 642) (tgt := 674) hx hb dL_law_32 (by rw [c20]; decide) (by rw [c20]; decide) (by rw [c20]; rfl) (by decide) ?_
        exact lc_lifts C1 hK hN hZ hD hadr o_lifts hk1 hk2 hk3 nxt hR hP hS hl
      by_cases c21 : x = (21 : Int32)
      · refine lv_tableIn (off := 675) (tgt := 707) hx hb dL_law_32 (by rw [c21]; decide) (by rw [c21]; decide) (by rw [c21]; rfl) (by decide) ?_
        exact lc_trainsUntil C1 hK hN hZ hD hadr o_trainsUntil hk1 hk2 hk3 nxt hR hP hS hl
      by_cases c22 : x = (22 : Int32)
      · refine lv_tableIn (off := 718) (tgt := 750) hx hb dL_law_32 (by rw [c22]; decide) (by rw [c22]; decide) (by rw [c22]; rfl) (by decide) ?_
        exact lc_bestRow C1 hK hN hZ hD hadr o_bestRow hk1 hk2 hk3 nxt hR hP hS hl
      by_cases c23 : x = (23 : Int32)
      · refine lv_tableIn (off := 761) (tgt := 793) hx hb dL_law_32 (by rw [c23]; decide) (by rw [c23]; decide) (by rw [c23]; rfl) (by decide) ?_
        exact lc_minutesLeft C1 hK hN hZ hD hadr o_minutesLeft hk1 hk2 hk3 nxt hR hP hS hl
      refine lv_tableOut (tgt := 806) hx hb dL_law_32 (sw_out (fun k h1 h2 => by
        rcases (show k = 0 ∨ k = 1 ∨ k = 2 ∨ k = 3 ∨ k = 4 ∨ k = 5 ∨ k = 6 ∨ k = 7 ∨ k = 8 ∨ k = 9 ∨ k = 10 ∨ k = 11 ∨ k = 12 ∨ k = 13 ∨ k = 14 ∨ k = 15 ∨ k = 16 ∨ k = 17 ∨ k = 18 ∨ k = 19 ∨ k = 20 ∨ k = 21 ∨ k = 22 ∨ k = 23 by omega) with rfl | rfl | rfl | rfl | rfl | rfl | rfl | rfl | rfl | rfl | rfl | rfl | rfl | rfl | rfl | rfl | rfl | rfl | rfl | rfl | rfl | rfl | rfl | rfl
        · exact c0
        · exact c1
        · exact c2
        · exact c3
        · exact c4
        · exact c5
        · exact c6
        · exact c7
        · exact c8
        · exact c9
        · exact c10
        · exact c11
        · exact c12
        · exact c13
        · exact c14
        · exact c15
        · exact c16
        · exact c17
        · exact c18
        · exact c19
        · exact c20
        · exact c21
        · exact c22
        · exact c23)) (by decide) ?_
      exact nxt C u H locs ls hR hP hS hl
def i_C : TC := (i_S, i_V, i_S, i_V, i_H, i_S, i_S, i_S, i_S, i_S, i_S, i_X, nil0, i_S, i_S)
theorem at_i {s : State} {args : Array Value} {ty : FieldType} (h : (Cond.arrayClass ty).before args s = true) (hr : refKind ty = false) (hv : ∀ cA, s.vm.findClass ("[" ++ ty.toString) = some cA → va_RA s cA ty) : ∃ cA : ClassId, ArrOfT s cA ty ∧ va_RA s cA ty := by
  obtain ⟨cA, kA, comp, h1, h2, h3⟩ := Cond.arrayClass_spec h
  exact ⟨cA, fun n z => ⟨fun k h => (by cases h), kA, h2, comp, h3⟩, hv cA h1⟩
theorem at_q {s : State} {args : Array Value} {C : String} (h : (Cond.arrayOver (.object C)).before args s = true) : ∃ cA : ClassId, ArrOfT s cA (.object C) ∧ va_RA s cA (.object C) := by
  obtain ⟨comp, cA, kA, h1, h2, h3, h4, h5⟩ := Cond.arrayOver_spec h
  exact ⟨cA, fun n z => ⟨fun k h => (by cases h), kA, h3, comp, h4⟩, kA, comp, h3, h4, h1, h5⟩
theorem st_FIRST_NUMBERS {s : State} {b : Addr} {A : Nat → Prop} (hts : ∀ w ∈ lw_tbl, w.before #[Value.ref b] s = true) (hgv : (Jvm.Cond.and given_1 narrow_1).before #[Value.ref b] s = true) (hA : ∀ a : Nat, a < s.heap.size → ¬ A a) : STat "FIRST_NUMBERS" tF A s s.heap := by
  have hq := flat_of_before _ hgv
  have hi : (Cond.initialized "BallastTrack").before #[Value.ref b] s = true := (hts (.initialized RX4) (List.mem_of_getElem? (i := 44) (by decide +kernel)))
  have hl : (Cond.laysStatic "BallastTrack" "FIRST_NUMBERS" "[I").before #[Value.ref b] s = true := hts _ (List.mem_of_getElem? (i := 68) (by decide +kernel))
  obtain ⟨t, h1, h2⟩ := va_Tof (tm := .static "BallastTrack" "FIRST_NUMBERS" "[I") (ty := .int) (N := 8) (f := fun j => .int (tF j)) (by decide) (hq (Cond.arrayOf (.static "BallastTrack" "FIRST_NUMBERS" "[I") .int) (by decide +kernel)) (va_eqt (hq (Cond.eq (.length (.static "BallastTrack" "FIRST_NUMBERS" "[I")) (.int 8)) (by decide +kernel))) (fun j hj => by
    rcases (show j = 0 ∨ j = 1 ∨ j = 2 ∨ j = 3 ∨ j = 4 ∨ j = 5 ∨ j = 6 ∨ j = 7 by omega) with rfl | rfl | rfl | rfl | rfl | rfl | rfl | rfl
    · exact va_eqt (hq (Cond.eq (.elem (.static "BallastTrack" "FIRST_NUMBERS" "[I") (.int 0)) (.int (tF 0))) (by decide +kernel))
    · exact va_eqt (hq (Cond.eq (.elem (.static "BallastTrack" "FIRST_NUMBERS" "[I") (.int 1)) (.int (tF 1))) (by decide +kernel))
    · exact va_eqt (hq (Cond.eq (.elem (.static "BallastTrack" "FIRST_NUMBERS" "[I") (.int 2)) (.int (tF 2))) (by decide +kernel))
    · exact va_eqt (hq (Cond.eq (.elem (.static "BallastTrack" "FIRST_NUMBERS" "[I") (.int 3)) (.int (tF 3))) (by decide +kernel))
    · exact va_eqt (hq (Cond.eq (.elem (.static "BallastTrack" "FIRST_NUMBERS" "[I") (.int 4)) (.int (tF 4))) (by decide +kernel))
    · exact va_eqt (hq (Cond.eq (.elem (.static "BallastTrack" "FIRST_NUMBERS" "[I") (.int 5)) (.int (tF 5))) (by decide +kernel))
    · exact va_eqt (hq (Cond.eq (.elem (.static "BallastTrack" "FIRST_NUMBERS" "[I") (.int 6)) (.int (tF 6))) (by decide +kernel))
    · exact va_eqt (hq (Cond.eq (.elem (.static "BallastTrack" "FIRST_NUMBERS" "[I") (.int 7)) (.int (tF 7))) (by decide +kernel))) hA
  exact ⟨t, va_Zref hl hi h1 hA, h2⟩
theorem st_LEAST_NUMBERS {s : State} {b : Addr} {A : Nat → Prop} (hts : ∀ w ∈ lw_tbl, w.before #[Value.ref b] s = true) (hgv : (Jvm.Cond.and given_1 narrow_1).before #[Value.ref b] s = true) (hA : ∀ a : Nat, a < s.heap.size → ¬ A a) : STat "LEAST_NUMBERS" tL A s s.heap := by
  have hq := flat_of_before _ hgv
  have hi : (Cond.initialized "BallastTrack").before #[Value.ref b] s = true := (hts (.initialized RX4) (List.mem_of_getElem? (i := 44) (by decide +kernel)))
  have hl : (Cond.laysStatic "BallastTrack" "LEAST_NUMBERS" "[I").before #[Value.ref b] s = true := hts _ (List.mem_of_getElem? (i := 253) (by decide +kernel))
  obtain ⟨t, h1, h2⟩ := va_Tof (tm := .static "BallastTrack" "LEAST_NUMBERS" "[I") (ty := .int) (N := 8) (f := fun j => .int (tL j)) (by decide) (hq (Cond.arrayOf (.static "BallastTrack" "LEAST_NUMBERS" "[I") .int) (by decide +kernel)) (va_eqt (hq (Cond.eq (.length (.static "BallastTrack" "LEAST_NUMBERS" "[I")) (.int 8)) (by decide +kernel))) (fun j hj => by
    rcases (show j = 0 ∨ j = 1 ∨ j = 2 ∨ j = 3 ∨ j = 4 ∨ j = 5 ∨ j = 6 ∨ j = 7 by omega) with rfl | rfl | rfl | rfl | rfl | rfl | rfl | rfl
    · exact va_eqt (hq (Cond.eq (.elem (.static "BallastTrack" "LEAST_NUMBERS" "[I") (.int 0)) (.int (tL 0))) (by decide +kernel))
    · exact va_eqt (hq (Cond.eq (.elem (.static "BallastTrack" "LEAST_NUMBERS" "[I") (.int 1)) (.int (tL 1))) (by decide +kernel))
    · exact va_eqt (hq (Cond.eq (.elem (.static "BallastTrack" "LEAST_NUMBERS" "[I") (.int 2)) (.int (tL 2))) (by decide +kernel))
    · exact va_eqt (hq (Cond.eq (.elem (.static "BallastTrack" "LEAST_NUMBERS" "[I") (.int 3)) (.int (tL 3))) (by decide +kernel))
    · exact va_eqt (hq (Cond.eq (.elem (.static "BallastTrack" "LEAST_NUMBERS" "[I") (.int 4)) (.int (tL 4))) (by decide +kernel))
    · exact va_eqt (hq (Cond.eq (.elem (.static "BallastTrack" "LEAST_NUMBERS" "[I") (.int 5)) (.int (tL 5))) (by decide +kernel))
    · exact va_eqt (hq (Cond.eq (.elem (.static "BallastTrack" "LEAST_NUMBERS" "[I") (.int 6)) (.int (tL 6))) (by decide +kernel))
    · exact va_eqt (hq (Cond.eq (.elem (.static "BallastTrack" "LEAST_NUMBERS" "[I") (.int 7)) (.int (tL 7))) (by decide +kernel))) hA
  exact ⟨t, va_Zref hl hi h1 hA, h2⟩
theorem st_GREATEST_NUMBERS {s : State} {b : Addr} {A : Nat → Prop} (hts : ∀ w ∈ lw_tbl, w.before #[Value.ref b] s = true) (hgv : (Jvm.Cond.and given_1 narrow_1).before #[Value.ref b] s = true) (hA : ∀ a : Nat, a < s.heap.size → ¬ A a) : STat "GREATEST_NUMBERS" tG A s s.heap := by
  have hq := flat_of_before _ hgv
  have hi : (Cond.initialized "BallastTrack").before #[Value.ref b] s = true := (hts (.initialized RX4) (List.mem_of_getElem? (i := 44) (by decide +kernel)))
  have hl : (Cond.laysStatic "BallastTrack" "GREATEST_NUMBERS" "[I").before #[Value.ref b] s = true := hts _ (List.mem_of_getElem? (i := 259) (by decide +kernel))
  obtain ⟨t, h1, h2⟩ := va_Tof (tm := .static "BallastTrack" "GREATEST_NUMBERS" "[I") (ty := .int) (N := 8) (f := fun j => .int (tG j)) (by decide) (hq (Cond.arrayOf (.static "BallastTrack" "GREATEST_NUMBERS" "[I") .int) (by decide +kernel)) (va_eqt (hq (Cond.eq (.length (.static "BallastTrack" "GREATEST_NUMBERS" "[I")) (.int 8)) (by decide +kernel))) (fun j hj => by
    rcases (show j = 0 ∨ j = 1 ∨ j = 2 ∨ j = 3 ∨ j = 4 ∨ j = 5 ∨ j = 6 ∨ j = 7 by omega) with rfl | rfl | rfl | rfl | rfl | rfl | rfl | rfl
    · exact va_eqt (hq (Cond.eq (.elem (.static "BallastTrack" "GREATEST_NUMBERS" "[I") (.int 0)) (.int (tG 0))) (by decide +kernel))
    · exact va_eqt (hq (Cond.eq (.elem (.static "BallastTrack" "GREATEST_NUMBERS" "[I") (.int 1)) (.int (tG 1))) (by decide +kernel))
    · exact va_eqt (hq (Cond.eq (.elem (.static "BallastTrack" "GREATEST_NUMBERS" "[I") (.int 2)) (.int (tG 2))) (by decide +kernel))
    · exact va_eqt (hq (Cond.eq (.elem (.static "BallastTrack" "GREATEST_NUMBERS" "[I") (.int 3)) (.int (tG 3))) (by decide +kernel))
    · exact va_eqt (hq (Cond.eq (.elem (.static "BallastTrack" "GREATEST_NUMBERS" "[I") (.int 4)) (.int (tG 4))) (by decide +kernel))
    · exact va_eqt (hq (Cond.eq (.elem (.static "BallastTrack" "GREATEST_NUMBERS" "[I") (.int 5)) (.int (tG 5))) (by decide +kernel))
    · exact va_eqt (hq (Cond.eq (.elem (.static "BallastTrack" "GREATEST_NUMBERS" "[I") (.int 6)) (.int (tG 6))) (by decide +kernel))
    · exact va_eqt (hq (Cond.eq (.elem (.static "BallastTrack" "GREATEST_NUMBERS" "[I") (.int 7)) (.int (tG 7))) (by decide +kernel))) hA
  exact ⟨t, va_Zref hl hi h1 hA, h2⟩
set_option maxHeartbeats 8000000 in
set_option maxRecDepth 100000 in
theorem start_open {p : Program} {e : Env} {s : State} {m : MethodId} {below : List Frame} {meth : Method} {c : Code} (l : Launch) {b L : Nat} {xs : Nat → Int32} (hL : L ≤ 2048) (C0 : lw_At p s m meth c b L xs) {RR : TC → TM → Prop} {fu : Nat} (h0 : RR i_C i_M) (o_begin : OP_begin RR fu) (o_setNumber : OP_setNumber RR fu) (o_setLevel : OP_setLevel RR fu) (o_appendCharacter : OP_appendCharacter RR fu) (o_clearText : OP_clearText RR fu) (o_load : OP_load RR fu) (o_renew : OP_renew RR fu) (o_addJob : OP_addJob RR fu) (o_cancelJobs : OP_cancelJobs RR fu) (o_work : OP_work RR fu) (o_trains : OP_trains RR fu) (o_keep : OP_keep RR fu) (o_back : OP_back RR fu) (o_undo : OP_undo RR fu) (o_count : OP_count RR fu) (o_sleeper : OP_sleeper RR fu) (o_job : OP_job RR fu) (o_account : OP_account RR fu) (o_rail : OP_rail RR fu) (o_why : OP_why RR fu) (o_lifts : OP_lifts RR fu) (o_trainsUntil : OP_trainsUntil RR fu) (o_bestRow : OP_bestRow RR fu) (o_minutesLeft : OP_minutesLeft RR fu) : W p l e room_1 s m #[Value.ref b] below meth c s.heap [] 0 0 (lw_Z below #[Value.ref b] s) (entryFrame m ([Value.ref b] : List Value).toArray 4) := by
  have C1 := C0
  obtain ⟨hx, hb, hr, hml, hown, hts, hX, hbl, hlocks, hgv⟩ := C0
  have hA : ∀ q : Nat, s.heap.size ≤ q → (fun q : Nat => s.heap.size ≤ q) q := fun _ h => h
  have iX0 : ∀ w ∈ u_ws RX0 TX0 3, w ∈ lw_tbl := fun w h => (gl_X4_init w (iw_X4_init_X0 w h)).1
  obtain ⟨c0, iS0, hKn0⟩ := u_known (C := RX0) (T := TX0) (N := 3) (n := 3) hts iX0 (hts (.instantiable RX0 3) (List.mem_of_getElem? (i := 155) (by decide +kernel)))
  have iX1 : ∀ w ∈ u_ws RX1 TX1 9, w ∈ lw_tbl := fun w h => (gl_X4_init w (iw_X4_init_X1 w h)).1
  obtain ⟨c1, iS1, hKn1⟩ := u_known (C := RX1) (T := TX1) (N := 9) (n := 9) hts iX1 (hts (.instantiable RX1 9) (List.mem_of_getElem? (i := 62) (by decide +kernel)))
  have iX2 : ∀ w ∈ u_ws RX2 TX2 8, w ∈ lw_tbl := fun w h => (gl_X4_init w (iw_X4_init_X2 w h)).1
  obtain ⟨c2, iS2, hKn2⟩ := u_known (C := RX2) (T := TX2) (N := 8) (n := 8) hts iX2 (hts (.instantiable RX2 8) (List.mem_of_getElem? (i := 115) (by decide +kernel)))
  have iX3 : ∀ w ∈ u_ws RX3 TX3 4, w ∈ lw_tbl := fun w h => (gl_X4_init w (iw_X4_init_X3 w h)).1
  obtain ⟨c3, iS3, hKn3⟩ := u_known (C := RX3) (T := TX3) (N := 4) (n := 4) hts iX3 (hts (.instantiable RX3 4) (List.mem_of_getElem? (i := 175) (by decide +kernel)))
  have iX4 : ∀ w ∈ u_ws RX4 TX4 8, w ∈ lw_tbl := fun w h => (gl_X4_init w (iw_X4_init_X4 w h)).1
  obtain ⟨c4, iS4, hKn4⟩ := u_known (C := RX4) (T := TX4) (N := 8) (n := 8) hts iX4 (hts (.instantiable RX4 8) (List.mem_of_getElem? (i := 54) (by decide +kernel)))
  have iX5 : ∀ w ∈ u_ws RX5 TX5 12, w ∈ lw_tbl := fun w h => (gl_X5_init w (iw_X5_init_X5 w h)).1
  obtain ⟨c5, iS5, hKn5⟩ := u_known (C := RX5) (T := TX5) (N := 12) (n := 12) hts iX5 (hts (.instantiable RX5 12) (List.mem_of_getElem? (i := 538) (by decide +kernel)))
  obtain ⟨dC, dI, hKc⟩ : ∃ (dC : Nat → ClassId) (dI : Nat → Nat → Nat), ∀ (k : Nat) (q : vw_C), vwCl[k]? = some q → u_Kn s q.1 q.2.1 q.2.2 (dC k) (dI k) := by
    refine ⟨fun k => [c0, c1, c2, c3, c4, c5].getD k c0, fun k => [iS0, iS1, iS2, iS3, iS4, iS5].getD k iS0, ?_⟩
    intro k q hq
    match k, hq with
    | 0, hq => cases hq; exact hKn0
    | 1, hq => cases hq; exact hKn1
    | 2, hq => cases hq; exact hKn2
    | 3, hq => cases hq; exact hKn3
    | 4, hq => cases hq; exact hKn4
    | 5, hq => cases hq; exact hKn5
    | k + 6, hq => simp [vwCl] at hq
  obtain ⟨a0, ha0, hb0⟩ := at_i (ty := .int) (hts (.arrayClass .int) (List.mem_of_getElem? (i := 113) (by decide +kernel))) rfl (fun _ h => h)
  obtain ⟨a1, ha1, hb1⟩ := at_i (ty := .boolean) (hts (.arrayClass .boolean) (List.mem_of_getElem? (i := 153) (by decide +kernel))) rfl (fun _ h => h)
  obtain ⟨a2, ha2, hb2⟩ := at_i (ty := .byte) (hts (.arrayClass .byte) (List.mem_of_getElem? (i := 580) (by decide +kernel))) rfl (fun _ h => h)
  have hao : (Cond.arrayOver (.object "BallastTrack$State")).before #[Value.ref b] s = true := hts _ (List.mem_of_getElem? (i := 161) (by decide +kernel))
  obtain ⟨a3, ha3, hb3⟩ := at_q hao
  have hO : va_AO "BallastTrack$State" s := va_AO.of hao
  obtain ⟨cT, hK⟩ : ∃ cT : Nat → ClassId, va_K (dC, dI) vwCl (ty4 cT) s := by
    refine ⟨fun k => [a0, a1, a2, a3].getD k a0, hKc, ?_⟩
    intro k q hq
    match k, hq with
    | 0, hq => cases hq; exact ⟨ha0, hb0⟩
    | 1, hq => cases hq; exact ⟨ha1, hb1⟩
    | 2, hq => cases hq; exact ⟨ha2, hb2⟩
    | 3, hq => cases hq; exact ⟨ha3, hb3⟩
    | k + 4, hq => simp at hq
  have hN : NWs s := ⟨va_Nw.of rfl (hts _ (List.mem_of_getElem? (i := 176) (by decide +kernel))), va_Nw.of rfl (hts _ (List.mem_of_getElem? (i := 268) (by decide +kernel))), va_Nw.of rfl (hts _ (List.mem_of_getElem? (i := 321) (by decide +kernel))), va_Nw.of rfl (hts _ (List.mem_of_getElem? (i := 372) (by decide +kernel))), va_Nw.of rfl (hts _ (List.mem_of_getElem? (i := 422) (by decide +kernel))), va_Nw.of rfl (hts _ (List.mem_of_getElem? (i := 67) (by decide +kernel)))⟩
  have hZ : STs (fun q : Nat => s.heap.size ≤ q) s s.heap := ⟨st_FIRST_NUMBERS hts hgv (fun a h => Nat.not_le.mpr h), st_LEAST_NUMBERS hts hgv (fun a h => Nat.not_le.mpr h), st_GREATEST_NUMBERS hts hgv (fun a h => Nat.not_le.mpr h)⟩
  have hS : va_S (fun q : Nat => s.heap.size ≤ q) s.heap s.heap [] := va_S.rf
  have hP : va_P (dC, dI) vwCl [] s.heap := fun k q h => by simp at h
  have hD : va_D (fun q : Nat => s.heap.size ≤ q) [] := ⟨fun i j p q h => by simp at h, fun k q h => by simp at h⟩
  have hl := lv_entry ([.ref b]) (n := 4) (Nat.le_of_ble_eq_true rfl)
  rw [lg_entry_eq]
  generalize (lg_sl ([.ref b]) ++ List.replicate (4 - (lg_sl ([.ref b])).length) Slot.unset).toArray = ls at hl ⊢
  have hl : lv_has ls 4 [(0, .ref b)] := hl
  refine va_new (ci := 4) (fs := [.null, .null, .null, .null, .null, .null, .null, .null]) (C := RX4) (T := TX4) (N := 8) hx hb hts iX4 tyX4 tyX4_ok hown (hts (.classLink RL 7 RX4) (List.mem_of_getElem? (i := 53) (by decide +kernel))) (hts (.instantiable RX4 8) (List.mem_of_getElem? (i := 54) (by decide +kernel))) (hts (.initialized RX4) (List.mem_of_getElem? (i := 44) (by decide +kernel))) hK hP hD hS hA rfl (fun j hj => by rcases (show j = 0 ∨ j = 1 ∨ j = 2 ∨ j = 3 ∨ j = 4 ∨ j = 5 ∨ j = 6 ∨ j = 7 by omega) with rfl | rfl | rfl | rfl | rfl | rfl | rfl | rfl <;> rfl) (Nat.le_of_ble_eq_true rfl) (Nat.le_of_ble_eq_true rfl) dL_law_0 (fun q0 H hP hD hS => ?_)
  replace hP : va_P (dC, dI) vwCl (([] : va_W) ++ [(q0, .inr (4, [.null, .null, .null, .null, .null, .null, .null, .null]))]) H := hP
  replace hD : va_D (fun q : Nat => s.heap.size ≤ q) (([] : va_W) ++ [(q0, .inr (4, [.null, .null, .null, .null, .null, .null, .null, .null]))]) := hD
  refine W.widen (k := 1) (n := 8) (Nat.le_of_ble_eq_true rfl) (Nat.le_of_ble_eq_true rfl) ?_
  refine lv_dup hx hb dL_law_3 rfl ?_
  refine cl_c hP hD hA hS (va_runI (As := []) (rest := [.ref q0]) ⟨hx, hb, hml, hown, hts⟩ (c_X4_init l (dC, dI) cT q0 _) (cwI 0 hts gl_X4_init rfl rfl rfl (hts (.initialized RX4) (List.mem_of_getElem? (i := 44) (by decide +kernel))) (hts (.methodLink RL 9 yX4_init) (List.mem_of_getElem? (i := 55) (by decide +kernel))) (hts (.instanceMethod yX4_init) (List.mem_of_getElem? (i := 56) (by decide +kernel))) rfl (by decide +kernel) ⟨Nat.le_of_ble_eq_true rfl, Nat.le_of_ble_eq_true rfl⟩) ⟨PREA_blind, PREA_new hO hP hD hA hS hK hN hZ⟩ rfl rfl hl.1 rfl (lv_room (Nat.le_of_ble_eq_true rfl)) dL_law_4 ⟨Nat.le_of_ble_eq_true rfl, Nat.le_of_ble_eq_true rfl⟩) (fun g H locs hgg hP hD hS => ?_)
  rw [← hgg]
  refine W.widen (k := 95) (n := 3381) (Nat.le_of_ble_eq_true rfl) (Nat.le_of_ble_eq_true rfl) ?_
  refine lv_astore_n (lv' := [(1, .ref (g 0)), (0, .ref b)]) hx hb dL_law_7 rfl hl (by decide) rfl (fun ls hl => ?_)
  replace hP : va_P (dC, dI) vwCl (List.flatten [wT g, wS cT g 1 i_S, wV cT g 9 1 i_V, wS cT g 13 i_S, wV cT g 21 13 i_V, wH cT g 25 i_H, wS cT g 27 i_S, wS cT g 35 i_S, wS cT g 43 i_S, wS cT g 51 i_S, wS cT g 59 i_S, wS cT g 67 i_S, wX cT g 75 i_X, wI cT g 77, wK cT g 94 nil0, wS cT g 78 i_S, wS cT g 86 i_S]) H := hP
  replace hD : va_D (fun q : Nat => s.heap.size ≤ q) (List.flatten [wT g, wS cT g 1 i_S, wV cT g 9 1 i_V, wS cT g 13 i_S, wV cT g 21 13 i_V, wH cT g 25 i_H, wS cT g 27 i_S, wS cT g 35 i_S, wS cT g 43 i_S, wS cT g 51 i_S, wS cT g 59 i_S, wS cT g 67 i_S, wX cT g 75 i_X, wI cT g 77, wK cT g 94 nil0, wS cT g 78 i_S, wS cT g 86 i_S]) := hD
  refine va_new (ci := 5) (fs := [.null, .null, .int 0, .null, .int 0, .null, .null, .int 0, .null, .null, .int 0, .int 0]) (C := RX5) (T := TX5) (N := 12) hx hb hts iX5 tyX5 tyX5_ok hown (hts (.classLink RL 10 RX5) (List.mem_of_getElem? (i := 537) (by decide +kernel))) (hts (.instantiable RX5 12) (List.mem_of_getElem? (i := 538) (by decide +kernel))) (hts (.initialized RX5) (List.mem_of_getElem? (i := 50) (by decide +kernel))) hK hP hD hS hA rfl (fun j hj => by rcases (show j = 0 ∨ j = 1 ∨ j = 2 ∨ j = 3 ∨ j = 4 ∨ j = 5 ∨ j = 6 ∨ j = 7 ∨ j = 8 ∨ j = 9 ∨ j = 10 ∨ j = 11 by omega) with rfl | rfl | rfl | rfl | rfl | rfl | rfl | rfl | rfl | rfl | rfl | rfl <;> rfl) (Nat.le_of_ble_eq_true rfl) (Nat.le_of_ble_eq_true rfl) dL_law_8 (fun q1 H hP hD hS => ?_)
  replace hP : va_P (dC, dI) vwCl ((List.flatten [wT g, wS cT g 1 i_S, wV cT g 9 1 i_V, wS cT g 13 i_S, wV cT g 21 13 i_V, wH cT g 25 i_H, wS cT g 27 i_S, wS cT g 35 i_S, wS cT g 43 i_S, wS cT g 51 i_S, wS cT g 59 i_S, wS cT g 67 i_S, wX cT g 75 i_X, wI cT g 77, wK cT g 94 nil0, wS cT g 78 i_S, wS cT g 86 i_S]) ++ [(q1, .inr (5, [.null, .null, .int 0, .null, .int 0, .null, .null, .int 0, .null, .null, .int 0, .int 0]))]) H := hP
  replace hD : va_D (fun q : Nat => s.heap.size ≤ q) ((List.flatten [wT g, wS cT g 1 i_S, wV cT g 9 1 i_V, wS cT g 13 i_S, wV cT g 21 13 i_V, wH cT g 25 i_H, wS cT g 27 i_S, wS cT g 35 i_S, wS cT g 43 i_S, wS cT g 51 i_S, wS cT g 59 i_S, wS cT g 67 i_S, wX cT g 75 i_X, wI cT g 77, wK cT g 94 nil0, wS cT g 78 i_S, wS cT g 86 i_S]) ++ [(q1, .inr (5, [.null, .null, .int 0, .null, .int 0, .null, .null, .int 0, .null, .null, .int 0, .int 0]))]) := hD
  refine W.widen (k := 96) (n := 3393) (Nat.le_of_ble_eq_true rfl) (Nat.le_of_ble_eq_true rfl) ?_
  refine lv_dup hx hb dL_law_11 rfl ?_
  refine cl_c hP hD hA hS (va_runI (As := []) (rest := [.ref q1]) ⟨hx, hb, hml, hown, hts⟩ (c_X5_init l (dC, dI) cT q1 _) (cwI 0 hts gl_X5_init rfl rfl rfl (hts (.initialized RX5) (List.mem_of_getElem? (i := 50) (by decide +kernel))) (hts (.methodLink RL 12 yX5_init) (List.mem_of_getElem? (i := 539) (by decide +kernel))) (hts (.instanceMethod yX5_init) (List.mem_of_getElem? (i := 540) (by decide +kernel))) rfl (by decide +kernel) ⟨Nat.le_of_ble_eq_true rfl, Nat.le_of_ble_eq_true rfl⟩) ⟨PRE_blind, PRE_new hP hD hA hS hK hN hZ⟩ rfl rfl hl.1 rfl (lv_room (Nat.le_of_ble_eq_true rfl)) dL_law_12 ⟨Nat.le_of_ble_eq_true rfl, Nat.le_of_ble_eq_true rfl⟩) (fun gm H locs hggm hP hD hS => ?_)
  rw [← hggm]
  refine W.widen (k := 103) (n := 6423) (Nat.le_of_ble_eq_true rfl) (Nat.le_of_ble_eq_true rfl) ?_
  refine lv_astore_n (lv' := [(2, .ref (gm 0)), (1, .ref (g 0)), (0, .ref b)]) hx hb dL_law_15 rfl hl (by decide) rfl (fun ls hl => ?_)
  replace hP : va_P (dC, dI) vwCl (LB cT g gm i_C i_M).flatten H := hP
  replace hD : va_D (fun q : Nat => s.heap.size ≤ q) (LB cT g gm i_C i_M).flatten := hD
  refine lv_iconst (v := 0) hx hb dL_law_16 (by decide) ?_
  refine lv_istore_n (lv' := [(3, .int 0), (2, .ref (gm 0)), (1, .ref (g 0)), (0, .ref b)]) hx hb dL_law_17 rfl hl (by decide) rfl (fun ls hl => ?_)
  refine W.widen (k := 600000) (n := 7302250) (Nat.le_of_ble_eq_true rfl) (Nat.le_of_ble_eq_true rfl) ?_
  exact law_loop hL C1 hK hN hZ hD (fun _ _ => rfl) o_begin o_setNumber o_setLevel o_appendCharacter o_clearText o_load o_renew o_addJob o_cancelJobs o_work o_trains o_keep o_back o_undo o_count o_sleeper o_job o_account o_rail o_why o_lifts o_trainsUntil o_bestRow o_minutesLeft (L + 1) 0 (by omega) (by omega) i_C i_M H locs ls h0 hP hS (lv_sub hl [3, 2, 1, 0] rfl)
