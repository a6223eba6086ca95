theorem iw_X0_save_X0 : ∀ w ∈ u_ws RX0 TX0 3, w ∈ wsX0_save := by decide +kernel
def f_X0_save (fu : Nat) (u_hi : TH) (u_hi_r0 : TS) (u_hi_r1 : TS) (u_hi_r2 : TS) (u_hi_r3 : TS) (u_hi_r4 : TS) (u_hi_r5 : TS) (u_st : TS)  : Option (TH × TS × TS × TS × TS × TS × TS) :=
nm (H_ol u_hi) fun (x72 : Int32) =>
nm (H_sz u_hi) fun (x73 : Int32) =>
nm (x72 + x73) fun (x74 : Int32) =>
nm (x74 - x74 / (6 : Int32) * (6 : Int32)) fun (x75 : Int32) =>
ix x75 6 <|
if x75 = (0 : Int32) then (
bd (f_X1_copyFrom fu u_hi_r0 u_st ) fun (o78 : TS) =>
nm (H_sz u_hi) fun (x79 : Int32) =>
if (6 : Int32) ≤ x79 then (
nm (H_ol u_hi) fun (x81 : Int32) =>
nm (x81 + (1 : Int32)) fun (x82 : Int32) =>
nm (x82 - x82 / (6 : Int32) * (6 : Int32)) fun (x83 : Int32) =>
nm (H_ol_ u_hi x83) fun (u84 : TH) =>
some (u84, o78, u_hi_r1, u_hi_r2, u_hi_r3, u_hi_r4, u_hi_r5)
)
else (
nm (H_sz u_hi) fun (x85 : Int32) =>
nm (x85 + (1 : Int32)) fun (x86 : Int32) =>
nm (H_sz_ u_hi x86) fun (u87 : TH) =>
some (u87, o78, u_hi_r1, u_hi_r2, u_hi_r3, u_hi_r4, u_hi_r5)
)
)
else if x75 = (1 : Int32) then (
bd (f_X1_copyFrom fu u_hi_r1 u_st ) fun (o89 : TS) =>
nm (H_sz u_hi) fun (x90 : Int32) =>
if (6 : Int32) ≤ x90 then (
nm (H_ol u_hi) fun (x92 : Int32) =>
nm (x92 + (1 : Int32)) fun (x93 : Int32) =>
nm (x93 - x93 / (6 : Int32) * (6 : Int32)) fun (x94 : Int32) =>
nm (H_ol_ u_hi x94) fun (u95 : TH) =>
some (u95, u_hi_r0, o89, u_hi_r2, u_hi_r3, u_hi_r4, u_hi_r5)
)
else (
nm (H_sz u_hi) fun (x96 : Int32) =>
nm (x96 + (1 : Int32)) fun (x97 : Int32) =>
nm (H_sz_ u_hi x97) fun (u98 : TH) =>
some (u98, u_hi_r0, o89, u_hi_r2, u_hi_r3, u_hi_r4, u_hi_r5)
)
)
else if x75 = (2 : Int32) then (
bd (f_X1_copyFrom fu u_hi_r2 u_st ) fun (o100 : TS) =>
nm (H_sz u_hi) fun (x101 : Int32) =>
if (6 : Int32) ≤ x101 then (
nm (H_ol u_hi) fun (x103 : Int32) =>
nm (x103 + (1 : Int32)) fun (x104 : Int32) =>
nm (x104 - x104 / (6 : Int32) * (6 : Int32)) fun (x105 : Int32) =>
nm (H_ol_ u_hi x105) fun (u106 : TH) =>
some (u106, u_hi_r0, u_hi_r1, o100, u_hi_r3, u_hi_r4, u_hi_r5)
)
else (
nm (H_sz u_hi) fun (x107 : Int32) =>
nm (x107 + (1 : Int32)) fun (x108 : Int32) =>
nm (H_sz_ u_hi x108) fun (u109 : TH) =>
some (u109, u_hi_r0, u_hi_r1, o100, u_hi_r3, u_hi_r4, u_hi_r5)
)
)
else if x75 = (3 : Int32) then (
bd (f_X1_copyFrom fu u_hi_r3 u_st ) fun (o111 : TS) =>
nm (H_sz u_hi) fun (x112 : Int32) =>
if (6 : Int32) ≤ x112 then (
nm (H_ol u_hi) fun (x114 : Int32) =>
nm (x114 + (1 : Int32)) fun (x115 : Int32) =>
nm (x115 - x115 / (6 : Int32) * (6 : Int32)) fun (x116 : Int32) =>
nm (H_ol_ u_hi x116) fun (u117 : TH) =>
some (u117, u_hi_r0, u_hi_r1, u_hi_r2, o111, u_hi_r4, u_hi_r5)
)
else (
nm (H_sz u_hi) fun (x118 : Int32) =>
nm (x118 + (1 : Int32)) fun (x119 : Int32) =>
nm (H_sz_ u_hi x119) fun (u120 : TH) =>
some (u120, u_hi_r0, u_hi_r1, u_hi_r2, o111, u_hi_r4, u_hi_r5)
)
)
else if x75 = (4 : Int32) then (
bd (f_X1_copyFrom fu u_hi_r4 u_st ) fun (o122 : TS) =>
nm (H_sz u_hi) fun (x123 : Int32) =>
if (6 : Int32) ≤ x123 then (
nm (H_ol u_hi) fun (x125 : Int32) =>
nm (x125 + (1 : Int32)) fun (x126 : Int32) =>
nm (x126 - x126 / (6 : Int32) * (6 : Int32)) fun (x127 : Int32) =>
nm (H_ol_ u_hi x127) fun (u128 : TH) =>
some (u128, u_hi_r0, u_hi_r1, u_hi_r2, u_hi_r3, o122, u_hi_r5)
)
else (
nm (H_sz u_hi) fun (x129 : Int32) =>
nm (x129 + (1 : Int32)) fun (x130 : Int32) =>
nm (H_sz_ u_hi x130) fun (u131 : TH) =>
some (u131, u_hi_r0, u_hi_r1, u_hi_r2, u_hi_r3, o122, u_hi_r5)
)
)
else if x75 = (5 : Int32) then (
bd (f_X1_copyFrom fu u_hi_r5 u_st ) fun (o133 : TS) =>
nm (H_sz u_hi) fun (x134 : Int32) =>
if (6 : Int32) ≤ x134 then (
nm (H_ol u_hi) fun (x136 : Int32) =>
nm (x136 + (1 : Int32)) fun (x137 : Int32) =>
nm (x137 - x137 / (6 : Int32) * (6 : Int32)) fun (x138 : Int32) =>
nm (H_ol_ u_hi x138) fun (u139 : TH) =>
some (u139, u_hi_r0, u_hi_r1, u_hi_r2, u_hi_r3, u_hi_r4, o133)
)
else (
nm (H_sz u_hi) fun (x140 : Int32) =>
nm (x140 + (1 : Int32)) fun (x141 : Int32) =>
nm (H_sz_ u_hi x141) fun (u142 : TH) =>
some (u142, u_hi_r0, u_hi_r1, u_hi_r2, u_hi_r3, u_hi_r4, o133)
)
)
else none

abbrev rm_X0_save : Room := { frames := 2, cells := 0, slots := 0, locals := 81 }
set_option maxHeartbeats 4000000 in
set_option maxRecDepth 100000 in
theorem c_X0_save (l : Launch) (D : va_G) (cT : Nat → ClassId) (g : Nat → Nat) (b b2 : Nat) (fu : Nat) (u_hi : TH) (u_hi_r0 : TS) (u_hi_r1 : TS) (u_hi_r2 : TS) (u_hi_r3 : TS) (u_hi_r4 : TS) (u_hi_r5 : TS) (u_st : TS)  (o : TH × TS × TS × TS × TS × TS × TS) (hf : f_X0_save fu u_hi u_hi_r0 u_hi_r1 u_hi_r2 u_hi_r3 u_hi_r4 u_hi_r5 u_st  = some o) (sz : Nat) : Met l yX0_save wsX0_save rm_X0_save (va_Pc [.ref (g b), .ref (g b2)] (PRE D cT sz (List.flatten [wH cT g b u_hi, wS cT g (b + 2) u_hi_r0, wS cT g (b + 10) u_hi_r1, wS cT g (b + 18) u_hi_r2, wS cT g (b + 26) u_hi_r3, wS cT g (b + 34) u_hi_r4, wS cT g (b + 42) u_hi_r5, wS cT g b2 u_st]))) (QV D (List.flatten [wH cT g b o.1, wS cT g (b + 2) o.2.1, wS cT g (b + 10) o.2.2.1, wS cT g (b + 18) o.2.2.2.1, wS cT g (b + 26) o.2.2.2.2.1, wS cT g (b + 34) o.2.2.2.2.2.1, wS cT g (b + 42) o.2.2.2.2.2.2, wS cT g b2 u_st]) (va_A (List.flatten [wH cT g b u_hi, wS cT g (b + 2) u_hi_r0, wS cT g (b + 10) u_hi_r1, wS cT g (b + 18) u_hi_r2, wS cT g (b + 26) u_hi_r3, wS cT g (b + 34) u_hi_r4, wS cT g (b + 42) u_hi_r5, wS cT g b2 u_st]) sz)) 0 0 (va_A (List.flatten [wH cT g b u_hi, wS cT g (b + 2) u_hi_r0, wS cT g (b + 10) u_hi_r1, wS cT g (b + 18) u_hi_r2, wS cT g (b + 26) u_hi_r3, wS cT g (b + 34) u_hi_r4, wS cT g (b + 42) u_hi_r5, wS cT g b2 u_st]) sz) := by
  refine Met.ofW (cc := cX0_save) (maxL := 2) (ret := none) (by decide) rfl ?_
  intro p e s m args below meth c s₁ B0 hml hv
  obtain ⟨hav, hsz, hP, hK, hD, hN, hZ⟩ := hv
  have hx := B0.exec
  have hb := B0.bytes
  have hr := B0.returns
  have hts := atoms_spec (ws := wsX0_save) B0.pre
  have hown : s.vm.findClass RX0 = some m.cls := findClass_of_methodNamed B0.named
  have hlocks := B0.notSynchronized
  subst hsz
  have hD := hD.self (sz := s.heap.size)
  have hA : ∀ q : Nat, s.heap.size ≤ q → va_A (List.flatten [wH cT g b u_hi, wS cT g (b + 2) u_hi_r0, wS cT g (b + 10) u_hi_r1, wS cT g (b + 18) u_hi_r2, wS cT g (b + 26) u_hi_r3, wS cT g (b + 34) u_hi_r4, wS cT g (b + 42) u_hi_r5, wS cT g b2 u_st]) s.heap.size q := fun q h => Or.inr h
  generalize va_A (List.flatten [wH cT g b u_hi, wS cT g (b + 2) u_hi_r0, wS cT g (b + 10) u_hi_r1, wS cT g (b + 18) u_hi_r2, wS cT g (b + 26) u_hi_r3, wS cT g (b + 34) u_hi_r4, wS cT g (b + 42) u_hi_r5, wS cT g b2 u_st]) s.heap.size = A at hD hZ hA ⊢
  have hS : va_S A s.heap s.heap [] := va_S.rf
  have hl := lv_entry ([.ref (g b), .ref (g b2)]) (n := 2) (Nat.le_of_ble_eq_true rfl)
  rw [hav]
  rw [lg_entry_eq]
  generalize (lg_sl ([.ref (g b), .ref (g b2)]) ++ List.replicate (2 - (lg_sl ([.ref (g b), .ref (g b2)])).length) Slot.unset).toArray = ls at hl ⊢
  have hl : lv_has ls 2 [(0, .ref (g b)), (1, .ref (g b2))] := hl
  rw [← hav]
  generalize hQ : MQ below _ _ _ _ _ _ = Q
  show W p l e rm_X0_save s m args below meth c s.heap [] 0 0 Q (F0 m 0 ls [])
  unfold f_X0_save at hf
  refine lv_aload_n hx hb dX0_save_0 rfl (lv_at hl 0 rfl) ?_
  refine va_get (ci := 0) (v := .ref (g (b + 1))) (C := RX0) (T := TX0) (N := 3) hx hb hts iw_X0_save_X0 hown hK hP 0 rfl rfl 0 (by decide) (hts (.fieldLink RX0 11 "BallastTrack$History" "rows" "[LBallastTrack$State;") (List.mem_of_getElem? (i := 1) rfl)) (fun _ h9 => h9) rfl dX0_save_1 ?_
  refine lv_aload_n hx hb dX0_save_4 rfl (lv_at hl 0 rfl) ?_
  refine va_get (ci := 0) (v := .int (H_ol u_hi)) (C := RX0) (T := TX0) (N := 3) hx hb hts iw_X0_save_X0 hown hK hP 0 rfl rfl 1 (by decide) (hts (.fieldLink RX0 17 "BallastTrack$History" "oldest" "I") (List.mem_of_getElem? (i := 2) rfl)) (fun _ h9 => h9) rfl dX0_save_5 ?_
  refine lv_topi (fun x72 ex72 => ?_)
  replace hf := nm_i hf ex72
  refine lv_aload_n hx hb dX0_save_8 rfl (lv_at hl 0 rfl) ?_
  refine va_get (ci := 0) (v := .int (H_sz u_hi)) (C := RX0) (T := TX0) (N := 3) hx hb hts iw_X0_save_X0 hown hK hP 0 rfl rfl 2 (by decide) (hts (.fieldLink RX0 21 "BallastTrack$History" "size" "I") (List.mem_of_getElem? (i := 3) rfl)) (fun _ h9 => h9) rfl dX0_save_9 ?_
  refine lv_topi (fun x73 ex73 => ?_)
  replace hf := nm_i hf ex73
  refine lv_iadd hx hb dX0_save_12 ?_
  refine lv_topi (fun x74 ex74 => ?_)
  replace hf := nm_i hf ex74
  refine lv_bipush (v := 6) hx hb dX0_save_13 (by decide) ?_
  refine lv_irem hx hb dX0_save_15 (by decide) ?_
  refine lv_topi (fun x75 ex75 => ?_)
  replace hf := nm_i hf ex75
  obtain ⟨hi76, hf⟩ := ix_i hf
  by_cases c77 : x75 = (0 : Int32)
  · replace hf := it_t hf c77
    refine va_aldq hx hb hK hP 1 3 rfl rfl hi76 dX0_save_16 ?_
    refine W.eq (g2 := F0 m 17 ls [.ref (g (b + 2))]) (by rw [c77]; rfl) ?_
    refine lv_aload_n hx hb dX0_save_17 rfl (lv_at hl 1 rfl) ?_
    obtain ⟨o78, ho78, hf⟩ := bd_i hf
    refine cl_v [1, 7] [0, 2, 3, 4, 5, 6] [wH cT g b u_hi, wS cT g (b + 2) o78, wS cT g (b + 10) u_hi_r1, wS cT g (b + 18) u_hi_r2, wS cT g (b + 26) u_hi_r3, wS cT g (b + 34) u_hi_r4, wS cT g (b + 42) u_hi_r5, wS cT g b2 u_st] hP (va_D_adr hD rfl) hA hS (va_runV (As := [.ref (g b2)]) (rest := []) ⟨hx, hb, hml, hown, hts⟩ (c_X1_copyFrom l D cT g (b + 2) b2 fu u_hi_r0 u_st  o78 ho78 _) (cwV 1 hts gX0_save_X1_copyFrom rfl rfl rfl (by decide +kernel) ⟨Nat.le_of_ble_eq_true rfl, Nat.le_of_ble_eq_true rfl⟩) ⟨PRE_blind, va_recv hK hP (ci := 1) (q0 := 2) rfl rfl, PRE_ok [1, 7] (by decide) hP (va_D_adr hD rfl) hA hS hK hN hZ⟩ rfl rfl hl.1 rfl (lv_room (Nat.le_of_ble_eq_true rfl)) dX0_save_18 ⟨Nat.le_of_ble_eq_true rfl, Nat.le_of_ble_eq_true rfl⟩) rfl 8 rfl (by decide) (by decide) (fun H locs hP hS => ?_)
    refine lv_aload_n hx hb dX0_save_21 rfl (lv_at hl 0 rfl) ?_
    refine va_get (ci := 0) (v := .int (H_sz u_hi)) (C := RX0) (T := TX0) (N := 3) hx hb hts iw_X0_save_X0 hown hK hP 0 rfl rfl 2 (by decide) (hts (.fieldLink RX0 21 "BallastTrack$History" "size" "I") (List.mem_of_getElem? (i := 3) rfl)) (fun _ h9 => h9) rfl dX0_save_22 ?_
    refine lv_topi (fun x79 ex79 => ?_)
    replace hf := nm_i hf ex79
    refine lv_bipush (v := 6) hx hb dX0_save_25 (by decide) ?_
    refine lv_icmp_ge (tgt := 43) hx hb dX0_save_27 (by decide) (fun c80 => ?_) (fun c80 => ?_)
    · replace hf := it_t hf c80
      refine lv_aload_n hx hb dX0_save_43 rfl (lv_at hl 0 rfl) ?_
      refine lv_aload_n hx hb dX0_save_44 rfl (lv_at hl 0 rfl) ?_
      refine va_get (ci := 0) (v := .int (H_ol u_hi)) (C := RX0) (T := TX0) (N := 3) hx hb hts iw_X0_save_X0 hown hK hP 0 rfl rfl 1 (by decide) (hts (.fieldLink RX0 17 "BallastTrack$History" "oldest" "I") (List.mem_of_getElem? (i := 2) rfl)) (fun _ h9 => h9) rfl dX0_save_45 ?_
      refine lv_topi (fun x81 ex81 => ?_)
      replace hf := nm_i hf ex81
      refine lv_iconst (v := 1) hx hb dX0_save_48 (by decide) ?_
      refine lv_iadd hx hb dX0_save_49 ?_
      refine lv_topi (fun x82 ex82 => ?_)
      replace hf := nm_i hf ex82
      refine lv_bipush (v := 6) hx hb dX0_save_50 (by decide) ?_
      refine lv_irem hx hb dX0_save_52 (by decide) ?_
      refine lv_topi (fun x83 ex83 => ?_)
      replace hf := nm_i hf ex83
      refine va_put (ci := 0) (v := .int x83) (ty := .int) (C := RX0) (T := TX0) (N := 3) hx hb hts iw_X0_save_X0 tyX0 tyX0_ok nmX0 hown hK hP (va_D_adr hD rfl) hS 0 rfl rfl 1 (by decide) (hts (.fieldLink RX0 17 "BallastTrack$History" "oldest" "I") (List.mem_of_getElem? (i := 2) rfl)) (fun _ h9 => h9) rfl (by decide +kernel) rfl rfl (Nat.le_of_ble_eq_true rfl) dX0_save_53 (fun H locs hP _ hS => ?_)
      obtain ⟨u84, eu84⟩ : ∃ z : TH, z = H_ol_ u_hi x83 := ⟨_, rfl⟩
      replace hf := nm_i hf eu84
      have hP : va_P D vwCl (List.flatten [wH cT g b u84, wS cT g (b + 2) o78, wS cT g (b + 10) u_hi_r1, wS cT g (b + 18) u_hi_r2, wS cT g (b + 26) u_hi_r3, wS cT g (b + 34) u_hi_r4, wS cT g (b + 42) u_hi_r5, wS cT g b2 u_st]) H := by rw [eu84]; exact hP
      obtain rfl := Option.some.inj hf
      subst hQ
      exact en_v hx hb hr hP hS hlocks dX0_save_56
    · replace hf := it_f hf c80
      refine lv_aload_n hx hb dX0_save_30 rfl (lv_at hl 0 rfl) ?_
      refine lv_dup hx hb dX0_save_31 rfl ?_
      refine va_get (ci := 0) (v := .int (H_sz u_hi)) (C := RX0) (T := TX0) (N := 3) hx hb hts iw_X0_save_X0 hown hK hP 0 rfl rfl 2 (by decide) (hts (.fieldLink RX0 21 "BallastTrack$History" "size" "I") (List.mem_of_getElem? (i := 3) rfl)) (fun _ h9 => h9) rfl dX0_save_32 ?_
      refine lv_topi (fun x85 ex85 => ?_)
      replace hf := nm_i hf ex85
      refine lv_iconst (v := 1) hx hb dX0_save_35 (by decide) ?_
      refine lv_iadd hx hb dX0_save_36 ?_
      refine lv_topi (fun x86 ex86 => ?_)
      replace hf := nm_i hf ex86
      refine va_put (ci := 0) (v := .int x86) (ty := .int) (C := RX0) (T := TX0) (N := 3) hx hb hts iw_X0_save_X0 tyX0 tyX0_ok nmX0 hown hK hP (va_D_adr hD rfl) hS 0 rfl rfl 2 (by decide) (hts (.fieldLink RX0 21 "BallastTrack$History" "size" "I") (List.mem_of_getElem? (i := 3) rfl)) (fun _ h9 => h9) rfl (by decide +kernel) rfl rfl (Nat.le_of_ble_eq_true rfl) dX0_save_37 (fun H locs hP _ hS => ?_)
      obtain ⟨u87, eu87⟩ : ∃ z : TH, z = H_sz_ u_hi x86 := ⟨_, rfl⟩
      replace hf := nm_i hf eu87
      have hP : va_P D vwCl (List.flatten [wH cT g b u87, wS cT g (b + 2) o78, wS cT g (b + 10) u_hi_r1, wS cT g (b + 18) u_hi_r2, wS cT g (b + 26) u_hi_r3, wS cT g (b + 34) u_hi_r4, wS cT g (b + 42) u_hi_r5, wS cT g b2 u_st]) H := by rw [eu87]; exact hP
      refine lv_goto (tgt := 56) hx hb dX0_save_40 (by decide) ?_
      obtain rfl := Option.some.inj hf
      subst hQ
      exact en_v hx hb hr hP hS hlocks dX0_save_56
  replace hf := it_f hf c77
  by_cases c88 : x75 = (1 : Int32)
  · replace hf := it_t hf c88
    refine va_aldq hx hb hK hP 1 3 rfl rfl hi76 dX0_save_16 ?_
    refine W.eq (g2 := F0 m 17 ls [.ref (g (b + 10))]) (by rw [c88]; rfl) ?_
    refine lv_aload_n hx hb dX0_save_17 rfl (lv_at hl 1 rfl) ?_
    obtain ⟨o89, ho89, hf⟩ := bd_i hf
    refine cl_v [2, 7] [0, 1, 3, 4, 5, 6] [wH cT g b u_hi, wS cT g (b + 2) u_hi_r0, wS cT g (b + 10) o89, wS cT g (b + 18) u_hi_r2, wS cT g (b + 26) u_hi_r3, wS cT g (b + 34) u_hi_r4, wS cT g (b + 42) u_hi_r5, wS cT g b2 u_st] hP (va_D_adr hD rfl) hA hS (va_runV (As := [.ref (g b2)]) (rest := []) ⟨hx, hb, hml, hown, hts⟩ (c_X1_copyFrom l D cT g (b + 10) b2 fu u_hi_r1 u_st  o89 ho89 _) (cwV 1 hts gX0_save_X1_copyFrom rfl rfl rfl (by decide +kernel) ⟨Nat.le_of_ble_eq_true rfl, Nat.le_of_ble_eq_true rfl⟩) ⟨PRE_blind, va_recv hK hP (ci := 1) (q0 := 10) rfl rfl, PRE_ok [2, 7] (by decide) hP (va_D_adr hD rfl) hA hS hK hN hZ⟩ rfl rfl hl.1 rfl (lv_room (Nat.le_of_ble_eq_true rfl)) dX0_save_18 ⟨Nat.le_of_ble_eq_true rfl, Nat.le_of_ble_eq_true rfl⟩) rfl 8 rfl (by decide) (by decide) (fun H locs hP hS => ?_)
    refine lv_aload_n hx hb dX0_save_21 rfl (lv_at hl 0 rfl) ?_
    refine va_get (ci := 0) (v := .int (H_sz u_hi)) (C := RX0) (T := TX0) (N := 3) hx hb hts iw_X0_save_X0 hown hK hP 0 rfl rfl 2 (by decide) (hts (.fieldLink RX0 21 "BallastTrack$History" "size" "I") (List.mem_of_getElem? (i := 3) rfl)) (fun _ h9 => h9) rfl dX0_save_22 ?_
    refine lv_topi (fun x90 ex90 => ?_)
    replace hf := nm_i hf ex90
    refine lv_bipush (v := 6) hx hb dX0_save_25 (by decide) ?_
    refine lv_icmp_ge (tgt := 43) hx hb dX0_save_27 (by decide) (fun c91 => ?_) (fun c91 => ?_)
    · replace hf := it_t hf c91
      refine lv_aload_n hx hb dX0_save_43 rfl (lv_at hl 0 rfl) ?_
      refine lv_aload_n hx hb dX0_save_44 rfl (lv_at hl 0 rfl) ?_
      refine va_get (ci := 0) (v := .int (H_ol u_hi)) (C := RX0) (T := TX0) (N := 3) hx hb hts iw_X0_save_X0 hown hK hP 0 rfl rfl 1 (by decide) (hts (.fieldLink RX0 17 "BallastTrack$History" "oldest" "I") (List.mem_of_getElem? (i := 2) rfl)) (fun _ h9 => h9) rfl dX0_save_45 ?_
      refine lv_topi (fun x92 ex92 => ?_)
      replace hf := nm_i hf ex92
      refine lv_iconst (v := 1) hx hb dX0_save_48 (by decide) ?_
      refine lv_iadd hx hb dX0_save_49 ?_
      refine lv_topi (fun x93 ex93 => ?_)
      replace hf := nm_i hf ex93
      refine lv_bipush (v := 6) hx hb dX0_save_50 (by decide) ?_
      refine lv_irem hx hb dX0_save_52 (by decide) ?_
      refine lv_topi (fun x94 ex94 => ?_)
      replace hf := nm_i hf ex94
      refine va_put (ci := 0) (v := .int x94) (ty := .int) (C := RX0) (T := TX0) (N := 3) hx hb hts iw_X0_save_X0 tyX0 tyX0_ok nmX0 hown hK hP (va_D_adr hD rfl) hS 0 rfl rfl 1 (by decide) (hts (.fieldLink RX0 17 "BallastTrack$History" "oldest" "I") (List.mem_of_getElem? (i := 2) rfl)) (fun _ h9 => h9) rfl (by decide +kernel) rfl rfl (Nat.le_of_ble_eq_true rfl) dX0_save_53 (fun H locs hP _ hS => ?_)
      obtain ⟨u95, eu95⟩ : ∃ z : TH, z = H_ol_ u_hi x94 := ⟨_, rfl⟩
      replace hf := nm_i hf eu95
      have hP : va_P D vwCl (List.flatten [wH cT g b u95, wS cT g (b + 2) u_hi_r0, wS cT g (b + 10) o89, wS cT g (b + 18) u_hi_r2, wS cT g (b + 26) u_hi_r3, wS cT g (b + 34) u_hi_r4, wS cT g (b + 42) u_hi_r5, wS cT g b2 u_st]) H := by rw [eu95]; exact hP
      obtain rfl := Option.some.inj hf
      subst hQ
      exact en_v hx hb hr hP hS hlocks dX0_save_56
    · replace hf := it_f hf c91
      refine lv_aload_n hx hb dX0_save_30 rfl (lv_at hl 0 rfl) ?_
      refine lv_dup hx hb dX0_save_31 rfl ?_
      refine va_get (ci := 0) (v := .int (H_sz u_hi)) (C := RX0) (T := TX0) (N := 3) hx hb hts iw_X0_save_X0 hown hK hP 0 rfl rfl 2 (by decide) (hts (.fieldLink RX0 21 "BallastTrack$History" "size" "I") (List.mem_of_getElem? (i := 3) rfl)) (fun _ h9 => h9) rfl dX0_save_32 ?_
      refine lv_topi (fun x96 ex96 => ?_)
      replace hf := nm_i hf ex96
      refine lv_iconst (v := 1) hx hb dX0_save_35 (by decide) ?_
      refine lv_iadd hx hb dX0_save_36 ?_
      refine lv_topi (fun x97 ex97 => ?_)
      replace hf := nm_i hf ex97
      refine va_put (ci := 0) (v := .int x97) (ty := .int) (C := RX0) (T := TX0) (N := 3) hx hb hts iw_X0_save_X0 tyX0 tyX0_ok nmX0 hown hK hP (va_D_adr hD rfl) hS 0 rfl rfl 2 (by decide) (hts (.fieldLink RX0 21 "BallastTrack$History" "size" "I") (List.mem_of_getElem? (i := 3) rfl)) (fun _ h9 => h9) rfl (by decide +kernel) rfl rfl (Nat.le_of_ble_eq_true rfl) dX0_save_37 (fun H locs hP _ hS => ?_)
      obtain ⟨u98, eu98⟩ : ∃ z : TH, z = H_sz_ u_hi x97 := ⟨_, rfl⟩
      replace hf := nm_i hf eu98
      have hP : va_P D vwCl (List.flatten [wH cT g b u98, wS cT g (b + 2) u_hi_r0, wS cT g (b + 10) o89, wS cT g (b + 18) u_hi_r2, wS cT g (b + 26) u_hi_r3, wS cT g (b + 34) u_hi_r4, wS cT g (b + 42) u_hi_r5, wS cT g b2 u_st]) H := by rw [eu98]; exact hP
      refine lv_goto (tgt := 56) hx hb dX0_save_40 (by decide) ?_
      obtain rfl := Option.some.inj hf
      subst hQ
      exact en_v hx hb hr hP hS hlocks dX0_save_56
  replace hf := it_f hf c88
  by_cases c99 : x75 = (2 : Int32)
  · replace hf := it_t hf c99
    refine va_aldq hx hb hK hP 1 3 rfl rfl hi76 dX0_save_16 ?_
    refine W.eq (g2 := F0 m 17 ls [.ref (g (b + 18))]) (by rw [c99]; rfl) ?_
    refine lv_aload_n hx hb dX0_save_17 rfl (lv_at hl 1 rfl) ?_
    obtain ⟨o100, ho100, hf⟩ := bd_i hf
    refine cl_v [3, 7] [0, 1, 2, 4, 5, 6] [wH cT g b u_hi, wS cT g (b + 2) u_hi_r0, wS cT g (b + 10) u_hi_r1, wS cT g (b + 18) o100, wS cT g (b + 26) u_hi_r3, wS cT g (b + 34) u_hi_r4, wS cT g (b + 42) u_hi_r5, wS cT g b2 u_st] hP (va_D_adr hD rfl) hA hS (va_runV (As := [.ref (g b2)]) (rest := []) ⟨hx, hb, hml, hown, hts⟩ (c_X1_copyFrom l D cT g (b + 18) b2 fu u_hi_r2 u_st  o100 ho100 _) (cwV 1 hts gX0_save_X1_copyFrom rfl rfl rfl (by decide +kernel) ⟨Nat.le_of_ble_eq_true rfl, Nat.le_of_ble_eq_true rfl⟩) ⟨PRE_blind, va_recv hK hP (ci := 1) (q0 := 18) rfl rfl, PRE_ok [3, 7] (by decide) hP (va_D_adr hD rfl) hA hS hK hN hZ⟩ rfl rfl hl.1 rfl (lv_room (Nat.le_of_ble_eq_true rfl)) dX0_save_18 ⟨Nat.le_of_ble_eq_true rfl, Nat.le_of_ble_eq_true rfl⟩) rfl 8 rfl (by decide) (by decide) (fun H locs hP hS => ?_)
    refine lv_aload_n hx hb dX0_save_21 rfl (lv_at hl 0 rfl) ?_
    refine va_get (ci := 0) (v := .int (H_sz u_hi)) (C := RX0) (T := TX0) (N := 3) hx hb hts iw_X0_save_X0 hown hK hP 0 rfl rfl 2 (by decide) (hts (.fieldLink RX0 21 "BallastTrack$History" "size" "I") (List.mem_of_getElem? (i := 3) rfl)) (fun _ h9 => h9) rfl dX0_save_22 ?_
    refine lv_topi (fun x101 ex101 => ?_)
    replace hf := nm_i hf ex101
    refine lv_bipush (v := 6) hx hb dX0_save_25 (by decide) ?_
    refine lv_icmp_ge (tgt := 43) hx hb dX0_save_27 (by decide) (fun c102 => ?_) (fun c102 => ?_)
    · replace hf := it_t hf c102
      refine lv_aload_n hx hb dX0_save_43 rfl (lv_at hl 0 rfl) ?_
      refine lv_aload_n hx hb dX0_save_44 rfl (lv_at hl 0 rfl) ?_
      refine va_get (ci := 0) (v := .int (H_ol u_hi)) (C := RX0) (T := TX0) (N := 3) hx hb hts iw_X0_save_X0 hown hK hP 0 rfl rfl 1 (by decide) (hts (.fieldLink RX0 17 "BallastTrack$History" "oldest" "I") (List.mem_of_getElem? (i := 2) rfl)) (fun _ h9 => h9) rfl dX0_save_45 ?_
      refine lv_topi (fun x103 ex103 => ?_)
      replace hf := nm_i hf ex103
      refine lv_iconst (v := 1) hx hb dX0_save_48 (by decide) ?_
      refine lv_iadd hx hb dX0_save_49 ?_
      refine lv_topi (fun x104 ex104 => ?_)
      replace hf := nm_i hf ex104
      refine lv_bipush (v := 6) hx hb dX0_save_50 (by decide) ?_
      refine lv_irem hx hb dX0_save_52 (by decide) ?_
      refine lv_topi (fun x105 ex105 => ?_)
      replace hf := nm_i hf ex105
      refine va_put (ci := 0) (v := .int x105) (ty := .int) (C := RX0) (T := TX0) (N := 3) hx hb hts iw_X0_save_X0 tyX0 tyX0_ok nmX0 hown hK hP (va_D_adr hD rfl) hS 0 rfl rfl 1 (by decide) (hts (.fieldLink RX0 17 "BallastTrack$History" "oldest" "I") (List.mem_of_getElem? (i := 2) rfl)) (fun _ h9 => h9) rfl (by decide +kernel) rfl rfl (Nat.le_of_ble_eq_true rfl) dX0_save_53 (fun H locs hP _ hS => ?_)
      obtain ⟨u106, eu106⟩ : ∃ z : TH, z = H_ol_ u_hi x105 := ⟨_, rfl⟩
      replace hf := nm_i hf eu106
      have hP : va_P D vwCl (List.flatten [wH cT g b u106, wS cT g (b + 2) u_hi_r0, wS cT g (b + 10) u_hi_r1, wS cT g (b + 18) o100, wS cT g (b + 26) u_hi_r3, wS cT g (b + 34) u_hi_r4, wS cT g (b + 42) u_hi_r5, wS cT g b2 u_st]) H := by rw [eu106]; exact hP
      obtain rfl := Option.some.inj hf
      subst hQ
      exact en_v hx hb hr hP hS hlocks dX0_save_56
    · replace hf := it_f hf c102
      refine lv_aload_n hx hb dX0_save_30 rfl (lv_at hl 0 rfl) ?_
      refine lv_dup hx hb dX0_save_31 rfl ?_
      refine va_get (ci := 0) (v := .int (H_sz u_hi)) (C := RX0) (T := TX0) (N := 3) hx hb hts iw_X0_save_X0 hown hK hP 0 rfl rfl 2 (by decide) (hts (.fieldLink RX0 21 "BallastTrack$History" "size" "I") (List.mem_of_getElem? (i := 3) rfl)) (fun _ h9 => h9) rfl dX0_save_32 ?_
      refine lv_topi (fun x107 ex107 => ?_)
      replace hf := nm_i hf ex107
      refine lv_iconst (v := 1) hx hb dX0_save_35 (by decide) ?_
      refine lv_iadd hx hb dX0_save_36 ?_
      refine lv_topi (fun x108 ex108 => ?_)
      replace hf := nm_i hf ex108
      refine va_put (ci := 0) (v := .int x108) (ty := .int) (C := RX0) (T := TX0) (N := 3) hx hb hts iw_X0_save_X0 tyX0 tyX0_ok nmX0 hown hK hP (va_D_adr hD rfl) hS 0 rfl rfl 2 (by decide) (hts (.fieldLink RX0 21 "BallastTrack$History" "size" "I") (List.mem_of_getElem? (i := 3) rfl)) (fun _ h9 => h9) rfl (by decide +kernel) rfl rfl (Nat.le_of_ble_eq_true rfl) dX0_save_37 (fun H locs hP _ hS => ?_)
      obtain ⟨u109, eu109⟩ : ∃ z : TH, z = H_sz_ u_hi x108 := ⟨_, rfl⟩
      replace hf := nm_i hf eu109
      have hP : va_P D vwCl (List.flatten [wH cT g b u109, wS cT g (b + 2) u_hi_r0, wS cT g (b + 10) u_hi_r1, wS cT g (b + 18) o100, wS cT g (b + 26) u_hi_r3, wS cT g (b + 34) u_hi_r4, wS cT g (b + 42) u_hi_r5, wS cT g b2 u_st]) H := by rw [eu109]; exact hP
      refine lv_goto (tgt := 56) hx hb dX0_save_40 (by decide) ?_
      obtain rfl := Option.some.inj hf
      subst hQ
      exact en_v hx hb hr hP hS hlocks dX0_save_56
  replace hf := it_f hf c99
  by_cases c110 : x75 = (3 : Int32)
  · replace hf := it_t hf c110
    refine va_aldq hx hb hK hP 1 3 rfl rfl hi76 dX0_save_16 ?_
    refine W.eq (g2 := F0 m 17 ls [.ref (g (b + 26))]) (by rw [c110]; rfl) ?_
    refine lv_aload_n hx hb dX0_save_17 rfl (lv_at hl 1 rfl) ?_
    obtain ⟨o111, ho111, hf⟩ := bd_i hf
    refine cl_v [4, 7] [0, 1, 2, 3, 5, 6] [wH cT g b u_hi, wS cT g (b + 2) u_hi_r0, wS cT g (b + 10) u_hi_r1, wS cT g (b + 18) u_hi_r2, wS cT g (b + 26) o111, wS cT g (b + 34) u_hi_r4, wS cT g (b + 42) u_hi_r5, wS cT g b2 u_st] hP (va_D_adr hD rfl) hA hS (va_runV (As := [.ref (g b2)]) (rest := []) ⟨hx, hb, hml, hown, hts⟩ (c_X1_copyFrom l D cT g (b + 26) b2 fu u_hi_r3 u_st  o111 ho111 _) (cwV 1 hts gX0_save_X1_copyFrom rfl rfl rfl (by decide +kernel) ⟨Nat.le_of_ble_eq_true rfl, Nat.le_of_ble_eq_true rfl⟩) ⟨PRE_blind, va_recv hK hP (ci := 1) (q0 := 26) rfl rfl, PRE_ok [4, 7] (by decide) hP (va_D_adr hD rfl) hA hS hK hN hZ⟩ rfl rfl hl.1 rfl (lv_room (Nat.le_of_ble_eq_true rfl)) dX0_save_18 ⟨Nat.le_of_ble_eq_true rfl, Nat.le_of_ble_eq_true rfl⟩) rfl 8 rfl (by decide) (by decide) (fun H locs hP hS => ?_)
    refine lv_aload_n hx hb dX0_save_21 rfl (lv_at hl 0 rfl) ?_
    refine va_get (ci := 0) (v := .int (H_sz u_hi)) (C := RX0) (T := TX0) (N := 3) hx hb hts iw_X0_save_X0 hown hK hP 0 rfl rfl 2 (by decide) (hts (.fieldLink RX0 21 "BallastTrack$History" "size" "I") (List.mem_of_getElem? (i := 3) rfl)) (fun _ h9 => h9) rfl dX0_save_22 ?_
    refine lv_topi (fun x112 ex112 => ?_)
    replace hf := nm_i hf ex112
    refine lv_bipush (v := 6) hx hb dX0_save_25 (by decide) ?_
    refine lv_icmp_ge (tgt := 43) hx hb dX0_save_27 (by decide) (fun c113 => ?_) (fun c113 => ?_)
    · replace hf := it_t hf c113
      refine lv_aload_n hx hb dX0_save_43 rfl (lv_at hl 0 rfl) ?_
      refine lv_aload_n hx hb dX0_save_44 rfl (lv_at hl 0 rfl) ?_
      refine va_get (ci := 0) (v := .int (H_ol u_hi)) (C := RX0) (T := TX0) (N := 3) hx hb hts iw_X0_save_X0 hown hK hP 0 rfl rfl 1 (by decide) (hts (.fieldLink RX0 17 "BallastTrack$History" "oldest" "I") (List.mem_of_getElem? (i := 2) rfl)) (fun _ h9 => h9) rfl dX0_save_45 ?_
      refine lv_topi (fun x114 ex114 => ?_)
      replace hf := nm_i hf ex114
      refine lv_iconst (v := 1) hx hb dX0_save_48 (by decide) ?_
      refine lv_iadd hx hb dX0_save_49 ?_
      refine lv_topi (fun x115 ex115 => ?_)
      replace hf := nm_i hf ex115
      refine lv_bipush (v := 6) hx hb dX0_save_50 (by decide) ?_
      refine lv_irem hx hb dX0_save_52 (by decide) ?_
      refine lv_topi (fun x116 ex116 => ?_)
      replace hf := nm_i hf ex116
      refine va_put (ci := 0) (v := .int x116) (ty := .int) (C := RX0) (T := TX0) (N := 3) hx hb hts iw_X0_save_X0 tyX0 tyX0_ok nmX0 hown hK hP (va_D_adr hD rfl) hS 0 rfl rfl 1 (by decide) (hts (.fieldLink RX0 17 "BallastTrack$History" "oldest" "I") (List.mem_of_getElem? (i := 2) rfl)) (fun _ h9 => h9) rfl (by decide +kernel) rfl rfl (Nat.le_of_ble_eq_true rfl) dX0_save_53 (fun H locs hP _ hS => ?_)
      obtain ⟨u117, eu117⟩ : ∃ z : TH, z = H_ol_ u_hi x116 := ⟨_, rfl⟩
      replace hf := nm_i hf eu117
      have hP : va_P D vwCl (List.flatten [wH cT g b u117, wS cT g (b + 2) u_hi_r0, wS cT g (b + 10) u_hi_r1, wS cT g (b + 18) u_hi_r2, wS cT g (b + 26) o111, wS cT g (b + 34) u_hi_r4, wS cT g (b + 42) u_hi_r5, wS cT g b2 u_st]) H := by rw [eu117]; exact hP
      obtain rfl := Option.some.inj hf
      subst hQ
      exact en_v hx hb hr hP hS hlocks dX0_save_56
    · replace hf := it_f hf c113
      refine lv_aload_n hx hb dX0_save_30 rfl (lv_at hl 0 rfl) ?_
      refine lv_dup hx hb dX0_save_31 rfl ?_
      refine va_get (ci := 0) (v := .int (H_sz u_hi)) (C := RX0) (T := TX0) (N := 3) hx hb hts iw_X0_save_X0 hown hK hP 0 rfl rfl 2 (by decide) (hts (.fieldLink RX0 21 "BallastTrack$History" "size" "I") (List.mem_of_getElem? (i := 3) rfl)) (fun _ h9 => h9) rfl dX0_save_32 ?_
      refine lv_topi (fun x118 ex118 => ?_)
      replace hf := nm_i hf ex118
      refine lv_iconst (v := 1) hx hb dX0_save_35 (by decide) ?_
      refine lv_iadd hx hb dX0_save_36 ?_
      refine lv_topi (fun x119 ex119 => ?_)
      replace hf := nm_i hf ex119
      refine va_put (ci := 0) (v := .int x119) (ty := .int) (C := RX0) (T := TX0) (N := 3) hx hb hts iw_X0_save_X0 tyX0 tyX0_ok nmX0 hown hK hP (va_D_adr hD rfl) hS 0 rfl rfl 2 (by decide) (hts (.fieldLink RX0 21 "BallastTrack$History" "size" "I") (List.mem_of_getElem? (i := 3) rfl)) (fun _ h9 => h9) rfl (by decide +kernel) rfl rfl (Nat.le_of_ble_eq_true rfl) dX0_save_37 (fun H locs hP _ hS => ?_)
      obtain ⟨u120, eu120⟩ : ∃ z : TH, z = H_sz_ u_hi x119 := ⟨_, rfl⟩
      replace hf := nm_i hf eu120
      have hP : va_P D vwCl (List.flatten [wH cT g b u120, wS cT g (b + 2) u_hi_r0, wS cT g (b + 10) u_hi_r1, wS cT g (b + 18) u_hi_r2, wS cT g (b + 26) o111, wS cT g (b + 34) u_hi_r4, wS cT g (b + 42) u_hi_r5, wS cT g b2 u_st]) H := by rw [eu120]; exact hP
      refine lv_goto (tgt := 56) hx hb dX0_save_40 (by decide) ?_
      obtain rfl := Option.some.inj hf
      subst hQ
      exact en_v hx hb hr hP hS hlocks dX0_save_56
  replace hf := it_f hf c110
  by_cases c121 : x75 = (4 : Int32)
  · replace hf := it_t hf c121
    refine va_aldq hx hb hK hP 1 3 rfl rfl hi76 dX0_save_16 ?_
    refine W.eq (g2 := F0 m 17 ls [.ref (g (b + 34))]) (by rw [c121]; rfl) ?_
    refine lv_aload_n hx hb dX0_save_17 rfl (lv_at hl 1 rfl) ?_
    obtain ⟨o122, ho122, hf⟩ := bd_i hf
    refine cl_v [5, 7] [0, 1, 2, 3, 4, 6] [wH cT g b u_hi, wS cT g (b + 2) u_hi_r0, wS cT g (b + 10) u_hi_r1, wS cT g (b + 18) u_hi_r2, wS cT g (b + 26) u_hi_r3, wS cT g (b + 34) o122, wS cT g (b + 42) u_hi_r5, wS cT g b2 u_st] hP (va_D_adr hD rfl) hA hS (va_runV (As := [.ref (g b2)]) (rest := []) ⟨hx, hb, hml, hown, hts⟩ (c_X1_copyFrom l D cT g (b + 34) b2 fu u_hi_r4 u_st  o122 ho122 _) (cwV 1 hts gX0_save_X1_copyFrom rfl rfl rfl (by decide +kernel) ⟨Nat.le_of_ble_eq_true rfl, Nat.le_of_ble_eq_true rfl⟩) ⟨PRE_blind, va_recv hK hP (ci := 1) (q0 := 34) rfl rfl, PRE_ok [5, 7] (by decide) hP (va_D_adr hD rfl) hA hS hK hN hZ⟩ rfl rfl hl.1 rfl (lv_room (Nat.le_of_ble_eq_true rfl)) dX0_save_18 ⟨Nat.le_of_ble_eq_true rfl, Nat.le_of_ble_eq_true rfl⟩) rfl 8 rfl (by decide) (by decide) (fun H locs hP hS => ?_)
    refine lv_aload_n hx hb dX0_save_21 rfl (lv_at hl 0 rfl) ?_
    refine va_get (ci := 0) (v := .int (H_sz u_hi)) (C := RX0) (T := TX0) (N := 3) hx hb hts iw_X0_save_X0 hown hK hP 0 rfl rfl 2 (by decide) (hts (.fieldLink RX0 21 "BallastTrack$History" "size" "I") (List.mem_of_getElem? (i := 3) rfl)) (fun _ h9 => h9) rfl dX0_save_22 ?_
    refine lv_topi (fun x123 ex123 => ?_)
    replace hf := nm_i hf ex123
    refine lv_bipush (v := 6) hx hb dX0_save_25 (by decide) ?_
    refine lv_icmp_ge (tgt := 43) hx hb dX0_save_27 (by decide) (fun c124 => ?_) (fun c124 => ?_)
    · replace hf := it_t hf c124
      refine lv_aload_n hx hb dX0_save_43 rfl (lv_at hl 0 rfl) ?_
      refine lv_aload_n hx hb dX0_save_44 rfl (lv_at hl 0 rfl) ?_
      refine va_get (ci := 0) (v := .int (H_ol u_hi)) (C := RX0) (T := TX0) (N := 3) hx hb hts iw_X0_save_X0 hown hK hP 0 rfl rfl 1 (by decide) (hts (.fieldLink RX0 17 "BallastTrack$History" "oldest" "I") (List.mem_of_getElem? (i := 2) rfl)) (fun _ h9 => h9) rfl dX0_save_45 ?_
      refine lv_topi (fun x125 ex125 => ?_)
      replace hf := nm_i hf ex125
      refine lv_iconst (v := 1) hx hb dX0_save_48 (by decide) ?_
      refine lv_iadd hx hb dX0_save_49 ?_
      refine lv_topi (fun x126 ex126 => ?_)
      replace hf := nm_i hf ex126
      refine lv_bipush (v := 6) hx hb dX0_save_50 (by decide) ?_
      refine lv_irem hx hb dX0_save_52 (by decide) ?_
      refine lv_topi (fun x127 ex127 => ?_)
      replace hf := nm_i hf ex127
      refine va_put (ci := 0) (v := .int x127) (ty := .int) (C := RX0) (T := TX0) (N := 3) hx hb hts iw_X0_save_X0 tyX0 tyX0_ok nmX0 hown hK hP (va_D_adr hD rfl) hS 0 rfl rfl 1 (by decide) (hts (.fieldLink RX0 17 "BallastTrack$History" "oldest" "I") (List.mem_of_getElem? (i := 2) rfl)) (fun _ h9 => h9) rfl (by decide +kernel) rfl rfl (Nat.le_of_ble_eq_true rfl) dX0_save_53 (fun H locs hP _ hS => ?_)
      obtain ⟨u128, eu128⟩ : ∃ z : TH, z = H_ol_ u_hi x127 := ⟨_, rfl⟩
      replace hf := nm_i hf eu128
      have hP : va_P D vwCl (List.flatten [wH cT g b u128, wS cT g (b + 2) u_hi_r0, wS cT g (b + 10) u_hi_r1, wS cT g (b + 18) u_hi_r2, wS cT g (b + 26) u_hi_r3, wS cT g (b + 34) o122, wS cT g (b + 42) u_hi_r5, wS cT g b2 u_st]) H := by rw [eu128]; exact hP
      obtain rfl := Option.some.inj hf
      subst hQ
      exact en_v hx hb hr hP hS hlocks dX0_save_56
    · replace hf := it_f hf c124
      refine lv_aload_n hx hb dX0_save_30 rfl (lv_at hl 0 rfl) ?_
      refine lv_dup hx hb dX0_save_31 rfl ?_
      refine va_get (ci := 0) (v := .int (H_sz u_hi)) (C := RX0) (T := TX0) (N := 3) hx hb hts iw_X0_save_X0 hown hK hP 0 rfl rfl 2 (by decide) (hts (.fieldLink RX0 21 "BallastTrack$History" "size" "I") (List.mem_of_getElem? (i := 3) rfl)) (fun _ h9 => h9) rfl dX0_save_32 ?_
      refine lv_topi (fun x129 ex129 => ?_)
      replace hf := nm_i hf ex129
      refine lv_iconst (v := 1) hx hb dX0_save_35 (by decide) ?_
      refine lv_iadd hx hb dX0_save_36 ?_
      refine lv_topi (fun x130 ex130 => ?_)
      replace hf := nm_i hf ex130
      refine va_put (ci := 0) (v := .int x130) (ty := .int) (C := RX0) (T := TX0) (N := 3) hx hb hts iw_X0_save_X0 tyX0 tyX0_ok nmX0 hown hK hP (va_D_adr hD rfl) hS 0 rfl rfl 2 (by decide) (hts (.fieldLink RX0 21 "BallastTrack$History" "size" "I") (List.mem_of_getElem? (i := 3) rfl)) (fun _ h9 => h9) rfl (by decide +kernel) rfl rfl (Nat.le_of_ble_eq_true rfl) dX0_save_37 (fun H locs hP _ hS => ?_)
      obtain ⟨u131, eu131⟩ : ∃ z : TH, z = H_sz_ u_hi x130 := ⟨_, rfl⟩
      replace hf := nm_i hf eu131
      have hP : va_P D vwCl (List.flatten [wH cT g b u131, wS cT g (b + 2) u_hi_r0, wS cT g (b + 10) u_hi_r1, wS cT g (b + 18) u_hi_r2, wS cT g (b + 26) u_hi_r3, wS cT g (b + 34) o122, wS cT g (b + 42) u_hi_r5, wS cT g b2 u_st]) H := by rw [eu131]; exact hP
      refine lv_goto (tgt := 56) hx hb dX0_save_40 (by decide) ?_
      obtain rfl := Option.some.inj hf
      subst hQ
      exact en_v hx hb hr hP hS hlocks dX0_save_56
  replace hf := it_f hf c121
  by_cases c132 : x75 = (5 : Int32)
  · replace hf := it_t hf c132
    refine va_aldq hx hb hK hP 1 3 rfl rfl hi76 dX0_save_16 ?_
    refine W.eq (g2 := F0 m 17 ls [.ref (g (b + 42))]) (by rw [c132]; rfl) ?_
    refine lv_aload_n hx hb dX0_save_17 rfl (lv_at hl 1 rfl) ?_
    obtain ⟨o133, ho133, hf⟩ := bd_i hf
    refine cl_v [6, 7] [0, 1, 2, 3, 4, 5] [wH cT g b u_hi, wS cT g (b + 2) u_hi_r0, wS cT g (b + 10) u_hi_r1, wS cT g (b + 18) u_hi_r2, wS cT g (b + 26) u_hi_r3, wS cT g (b + 34) u_hi_r4, wS cT g (b + 42) o133, wS cT g b2 u_st] hP (va_D_adr hD rfl) hA hS (va_runV (As := [.ref (g b2)]) (rest := []) ⟨hx, hb, hml, hown, hts⟩ (c_X1_copyFrom l D cT g (b + 42) b2 fu u_hi_r5 u_st  o133 ho133 _) (cwV 1 hts gX0_save_X1_copyFrom rfl rfl rfl (by decide +kernel) ⟨Nat.le_of_ble_eq_true rfl, Nat.le_of_ble_eq_true rfl⟩) ⟨PRE_blind, va_recv hK hP (ci := 1) (q0 := 42) rfl rfl, PRE_ok [6, 7] (by decide) hP (va_D_adr hD rfl) hA hS hK hN hZ⟩ rfl rfl hl.1 rfl (lv_room (Nat.le_of_ble_eq_true rfl)) dX0_save_18 ⟨Nat.le_of_ble_eq_true rfl, Nat.le_of_ble_eq_true rfl⟩) rfl 8 rfl (by decide) (by decide) (fun H locs hP hS => ?_)
    refine lv_aload_n hx hb dX0_save_21 rfl (lv_at hl 0 rfl) ?_
    refine va_get (ci := 0) (v := .int (H_sz u_hi)) (C := RX0) (T := TX0) (N := 3) hx hb hts iw_X0_save_X0 hown hK hP 0 rfl rfl 2 (by decide) (hts (.fieldLink RX0 21 "BallastTrack$History" "size" "I") (List.mem_of_getElem? (i := 3) rfl)) (fun _ h9 => h9) rfl dX0_save_22 ?_
    refine lv_topi (fun x134 ex134 => ?_)
    replace hf := nm_i hf ex134
    refine lv_bipush (v := 6) hx hb dX0_save_25 (by decide) ?_
    refine lv_icmp_ge (tgt := 43) hx hb dX0_save_27 (by decide) (fun c135 => ?_) (fun c135 => ?_)
    · replace hf := it_t hf c135
      refine lv_aload_n hx hb dX0_save_43 rfl (lv_at hl 0 rfl) ?_
      refine lv_aload_n hx hb dX0_save_44 rfl (lv_at hl 0 rfl) ?_
      refine va_get (ci := 0) (v := .int (H_ol u_hi)) (C := RX0) (T := TX0) (N := 3) hx hb hts iw_X0_save_X0 hown hK hP 0 rfl rfl 1 (by decide) (hts (.fieldLink RX0 17 "BallastTrack$History" "oldest" "I") (List.mem_of_getElem? (i := 2) rfl)) (fun _ h9 => h9) rfl dX0_save_45 ?_
      refine lv_topi (fun x136 ex136 => ?_)
      replace hf := nm_i hf ex136
      refine lv_iconst (v := 1) hx hb dX0_save_48 (by decide) ?_
      refine lv_iadd hx hb dX0_save_49 ?_
      refine lv_topi (fun x137 ex137 => ?_)
      replace hf := nm_i hf ex137
      refine lv_bipush (v := 6) hx hb dX0_save_50 (by decide) ?_
      refine lv_irem hx hb dX0_save_52 (by decide) ?_
      refine lv_topi (fun x138 ex138 => ?_)
      replace hf := nm_i hf ex138
      refine va_put (ci := 0) (v := .int x138) (ty := .int) (C := RX0) (T := TX0) (N := 3) hx hb hts iw_X0_save_X0 tyX0 tyX0_ok nmX0 hown hK hP (va_D_adr hD rfl) hS 0 rfl rfl 1 (by decide) (hts (.fieldLink RX0 17 "BallastTrack$History" "oldest" "I") (List.mem_of_getElem? (i := 2) rfl)) (fun _ h9 => h9) rfl (by decide +kernel) rfl rfl (Nat.le_of_ble_eq_true rfl) dX0_save_53 (fun H locs hP _ hS => ?_)
      obtain ⟨u139, eu139⟩ : ∃ z : TH, z = H_ol_ u_hi x138 := ⟨_, rfl⟩
      replace hf := nm_i hf eu139
      have hP : va_P D vwCl (List.flatten [wH cT g b u139, wS cT g (b + 2) u_hi_r0, wS cT g (b + 10) u_hi_r1, wS cT g (b + 18) u_hi_r2, wS cT g (b + 26) u_hi_r3, wS cT g (b + 34) u_hi_r4, wS cT g (b + 42) o133, wS cT g b2 u_st]) H := by rw [eu139]; exact hP
      obtain rfl := Option.some.inj hf
      subst hQ
      exact en_v hx hb hr hP hS hlocks dX0_save_56
    · replace hf := it_f hf c135
      refine lv_aload_n hx hb dX0_save_30 rfl (lv_at hl 0 rfl) ?_
      refine lv_dup hx hb dX0_save_31 rfl ?_
      refine va_get (ci := 0) (v := .int (H_sz u_hi)) (C := RX0) (T := TX0) (N := 3) hx hb hts iw_X0_save_X0 hown hK hP 0 rfl rfl 2 (by decide) (hts (.fieldLink RX0 21 "BallastTrack$History" "size" "I") (List.mem_of_getElem? (i := 3) rfl)) (fun _ h9 => h9) rfl dX0_save_32 ?_
      refine lv_topi (fun x140 ex140 => ?_)
      replace hf := nm_i hf ex140
      refine lv_iconst (v := 1) hx hb dX0_save_35 (by decide) ?_
      refine lv_iadd hx hb dX0_save_36 ?_
      refine lv_topi (fun x141 ex141 => ?_)
      replace hf := nm_i hf ex141
      refine va_put (ci := 0) (v := .int x141) (ty := .int) (C := RX0) (T := TX0) (N := 3) hx hb hts iw_X0_save_X0 tyX0 tyX0_ok nmX0 hown hK hP (va_D_adr hD rfl) hS 0 rfl rfl 2 (by decide) (hts (.fieldLink RX0 21 "BallastTrack$History" "size" "I") (List.mem_of_getElem? (i := 3) rfl)) (fun _ h9 => h9) rfl (by decide +kernel) rfl rfl (Nat.le_of_ble_eq_true rfl) dX0_save_37 (fun H locs hP _ hS => ?_)
      obtain ⟨u142, eu142⟩ : ∃ z : TH, z = H_sz_ u_hi x141 := ⟨_, rfl⟩
      replace hf := nm_i hf eu142
      have hP : va_P D vwCl (List.flatten [wH cT g b u142, wS cT g (b + 2) u_hi_r0, wS cT g (b + 10) u_hi_r1, wS cT g (b + 18) u_hi_r2, wS cT g (b + 26) u_hi_r3, wS cT g (b + 34) u_hi_r4, wS cT g (b + 42) o133, wS cT g b2 u_st]) H := by rw [eu142]; exact hP
      refine lv_goto (tgt := 56) hx hb dX0_save_40 (by decide) ?_
      obtain rfl := Option.some.inj hf
      subst hQ
      exact en_v hx hb hr hP hS hlocks dX0_save_56
  replace hf := it_f hf c132
  cases hf
theorem iw_X0_restore_X0 : ∀ w ∈ u_ws RX0 TX0 3, w ∈ wsX0_restore := by decide +kernel
def f_X0_restore (fu : Nat) (u_hi : TH) (u_hi_r0 : TS) (u_hi_r1 : TS) (u_hi_r2 : TS) (u_hi_r3 : TS) (u_hi_r4 : TS) (u_hi_r5 : TS) (u_st : TS)  : Option (TH × TS) :=
nm (H_sz u_hi) fun (x23 : Int32) =>
if x23 ≤ 0 then (
some (u_hi, u_st)
)
else (
nm (H_sz u_hi) fun (x25 : Int32) =>
nm (x25 - (1 : Int32)) fun (x26 : Int32) =>
nm (H_sz_ u_hi x26) fun (u27 : TH) =>
nm (H_ol u27) fun (x28 : Int32) =>
nm (H_sz u27) fun (x29 : Int32) =>
nm (x28 + x29) fun (x30 : Int32) =>
nm (x30 - x30 / (6 : Int32) * (6 : Int32)) fun (x31 : Int32) =>
ix x31 6 <|
if x31 = (0 : Int32) then (
bd (f_X1_copyFrom fu u_st u_hi_r0 ) fun (o34 : TS) =>
some (u27, o34)
)
else if x31 = (1 : Int32) then (
bd (f_X1_copyFrom fu u_st u_hi_r1 ) fun (o36 : TS) =>
some (u27, o36)
)
else if x31 = (2 : Int32) then (
bd (f_X1_copyFrom fu u_st u_hi_r2 ) fun (o38 : TS) =>
some (u27, o38)
)
else if x31 = (3 : Int32) then (
bd (f_X1_copyFrom fu u_st u_hi_r3 ) fun (o40 : TS) =>
some (u27, o40)
)
else if x31 = (4 : Int32) then (
bd (f_X1_copyFrom fu u_st u_hi_r4 ) fun (o42 : TS) =>
some (u27, o42)
)
else if x31 = (5 : Int32) then (
bd (f_X1_copyFrom fu u_st u_hi_r5 ) fun (o44 : TS) =>
some (u27, o44)
)
else none
)

abbrev rm_X0_restore : Room := { frames := 2, cells := 0, slots := 0, locals := 81 }
set_option maxHeartbeats 4000000 in
set_option maxRecDepth 100000 in
theorem c_X0_restore (l : Launch) (D : va_G) (cT : Nat → ClassId) (g : Nat → Nat) (b b2 : Nat) (fu : Nat) (u_hi : TH) (u_hi_r0 : TS) (u_hi_r1 : TS) (u_hi_r2 : TS) (u_hi_r3 : TS) (u_hi_r4 : TS) (u_hi_r5 : TS) (u_st : TS)  (o : TH × TS) (hf : f_X0_restore fu u_hi u_hi_r0 u_hi_r1 u_hi_r2 u_hi_r3 u_hi_r4 u_hi_r5 u_st  = some o) (sz : Nat) : Met l yX0_restore wsX0_restore rm_X0_restore (va_Pc [.ref (g b), .ref (g b2)] (PRE D cT sz (List.flatten [wH cT g b u_hi, wS cT g (b + 2) u_hi_r0, wS cT g (b + 10) u_hi_r1, wS cT g (b + 18) u_hi_r2, wS cT g (b + 26) u_hi_r3, wS cT g (b + 34) u_hi_r4, wS cT g (b + 42) u_hi_r5, wS cT g b2 u_st]))) (QV D (List.flatten [wH cT g b o.1, wS cT g (b + 2) u_hi_r0, wS cT g (b + 10) u_hi_r1, wS cT g (b + 18) u_hi_r2, wS cT g (b + 26) u_hi_r3, wS cT g (b + 34) u_hi_r4, wS cT g (b + 42) u_hi_r5, wS cT g b2 o.2]) (va_A (List.flatten [wH cT g b u_hi, wS cT g (b + 2) u_hi_r0, wS cT g (b + 10) u_hi_r1, wS cT g (b + 18) u_hi_r2, wS cT g (b + 26) u_hi_r3, wS cT g (b + 34) u_hi_r4, wS cT g (b + 42) u_hi_r5, wS cT g b2 u_st]) sz)) 0 0 (va_A (List.flatten [wH cT g b u_hi, wS cT g (b + 2) u_hi_r0, wS cT g (b + 10) u_hi_r1, wS cT g (b + 18) u_hi_r2, wS cT g (b + 26) u_hi_r3, wS cT g (b + 34) u_hi_r4, wS cT g (b + 42) u_hi_r5, wS cT g b2 u_st]) sz) := by
  refine Met.ofW (cc := cX0_restore) (maxL := 2) (ret := none) (by decide) rfl ?_
  intro p e s m args below meth c s₁ B0 hml hv
  obtain ⟨hav, hsz, hP, hK, hD, hN, hZ⟩ := hv
  have hx := B0.exec
  have hb := B0.bytes
  have hr := B0.returns
  have hts := atoms_spec (ws := wsX0_restore) B0.pre
  have hown : s.vm.findClass RX0 = some m.cls := findClass_of_methodNamed B0.named
  have hlocks := B0.notSynchronized
  subst hsz
  have hD := hD.self (sz := s.heap.size)
  have hA : ∀ q : Nat, s.heap.size ≤ q → va_A (List.flatten [wH cT g b u_hi, wS cT g (b + 2) u_hi_r0, wS cT g (b + 10) u_hi_r1, wS cT g (b + 18) u_hi_r2, wS cT g (b + 26) u_hi_r3, wS cT g (b + 34) u_hi_r4, wS cT g (b + 42) u_hi_r5, wS cT g b2 u_st]) s.heap.size q := fun q h => Or.inr h
  generalize va_A (List.flatten [wH cT g b u_hi, wS cT g (b + 2) u_hi_r0, wS cT g (b + 10) u_hi_r1, wS cT g (b + 18) u_hi_r2, wS cT g (b + 26) u_hi_r3, wS cT g (b + 34) u_hi_r4, wS cT g (b + 42) u_hi_r5, wS cT g b2 u_st]) s.heap.size = A at hD hZ hA ⊢
  have hS : va_S A s.heap s.heap [] := va_S.rf
  have hl := lv_entry ([.ref (g b), .ref (g b2)]) (n := 2) (Nat.le_of_ble_eq_true rfl)
  rw [hav]
  rw [lg_entry_eq]
  generalize (lg_sl ([.ref (g b), .ref (g b2)]) ++ List.replicate (2 - (lg_sl ([.ref (g b), .ref (g b2)])).length) Slot.unset).toArray = ls at hl ⊢
  have hl : lv_has ls 2 [(0, .ref (g b)), (1, .ref (g b2))] := hl
  rw [← hav]
  generalize hQ : MQ below _ _ _ _ _ _ = Q
  show W p l e rm_X0_restore s m args below meth c s.heap [] 0 0 Q (F0 m 0 ls [])
  unfold f_X0_restore at hf
  refine lv_aload_n hx hb dX0_restore_0 rfl (lv_at hl 0 rfl) ?_
  refine va_get (ci := 0) (v := .int (H_sz u_hi)) (C := RX0) (T := TX0) (N := 3) hx hb hts iw_X0_restore_X0 hown hK hP 0 rfl rfl 2 (by decide) (hts (.fieldLink RX0 21 "BallastTrack$History" "size" "I") (List.mem_of_getElem? (i := 1) rfl)) (fun _ h9 => h9) rfl dX0_restore_1 ?_
  refine lv_topi (fun x23 ex23 => ?_)
  replace hf := nm_i hf ex23
  refine lv_if_le (tgt := 38) hx hb dX0_restore_4 (by decide) (fun c24 => ?_) (fun c24 => ?_)
  · replace hf := it_t hf c24
    obtain rfl := Option.some.inj hf
    subst hQ
    exact en_v hx hb hr hP hS hlocks dX0_restore_38
  · replace hf := it_f hf c24
    refine lv_aload_n hx hb dX0_restore_7 rfl (lv_at hl 0 rfl) ?_
    refine lv_dup hx hb dX0_restore_8 rfl ?_
    refine va_get (ci := 0) (v := .int (H_sz u_hi)) (C := RX0) (T := TX0) (N := 3) hx hb hts iw_X0_restore_X0 hown hK hP 0 rfl rfl 2 (by decide) (hts (.fieldLink RX0 21 "BallastTrack$History" "size" "I") (List.mem_of_getElem? (i := 1) rfl)) (fun _ h9 => h9) rfl dX0_restore_9 ?_
    refine lv_topi (fun x25 ex25 => ?_)
    replace hf := nm_i hf ex25
    refine lv_iconst (v := 1) hx hb dX0_restore_12 (by decide) ?_
    refine lv_isub hx hb dX0_restore_13 ?_
    refine lv_topi (fun x26 ex26 => ?_)
    replace hf := nm_i hf ex26
    refine va_put (ci := 0) (v := .int x26) (ty := .int) (C := RX0) (T := TX0) (N := 3) hx hb hts iw_X0_restore_X0 tyX0 tyX0_ok nmX0 hown hK hP (va_D_adr hD rfl) hS 0 rfl rfl 2 (by decide) (hts (.fieldLink RX0 21 "BallastTrack$History" "size" "I") (List.mem_of_getElem? (i := 1) rfl)) (fun _ h9 => h9) rfl (by decide +kernel) rfl rfl (Nat.le_of_ble_eq_true rfl) dX0_restore_14 (fun H locs hP _ hS => ?_)
    obtain ⟨u27, eu27⟩ : ∃ z : TH, z = H_sz_ u_hi x26 := ⟨_, rfl⟩
    replace hf := nm_i hf eu27
    have hP : va_P D vwCl (List.flatten [wH cT g b u27, wS cT g (b + 2) u_hi_r0, wS cT g (b + 10) u_hi_r1, wS cT g (b + 18) u_hi_r2, wS cT g (b + 26) u_hi_r3, wS cT g (b + 34) u_hi_r4, wS cT g (b + 42) u_hi_r5, wS cT g b2 u_st]) H := by rw [eu27]; exact hP
    refine lv_aload_n hx hb dX0_restore_17 rfl (lv_at hl 1 rfl) ?_
    refine lv_aload_n hx hb dX0_restore_18 rfl (lv_at hl 0 rfl) ?_
    refine va_get (ci := 0) (v := .ref (g (b + 1))) (C := RX0) (T := TX0) (N := 3) hx hb hts iw_X0_restore_X0 hown hK hP 0 rfl rfl 0 (by decide) (hts (.fieldLink RX0 11 "BallastTrack$History" "rows" "[LBallastTrack$State;") (List.mem_of_getElem? (i := 2) rfl)) (fun _ h9 => h9) rfl dX0_restore_19 ?_
    refine lv_aload_n hx hb dX0_restore_22 rfl (lv_at hl 0 rfl) ?_
    refine va_get (ci := 0) (v := .int (H_ol u27)) (C := RX0) (T := TX0) (N := 3) hx hb hts iw_X0_restore_X0 hown hK hP 0 rfl rfl 1 (by decide) (hts (.fieldLink RX0 17 "BallastTrack$History" "oldest" "I") (List.mem_of_getElem? (i := 3) rfl)) (fun _ h9 => h9) rfl dX0_restore_23 ?_
    refine lv_topi (fun x28 ex28 => ?_)
    replace hf := nm_i hf ex28
    refine lv_aload_n hx hb dX0_restore_26 rfl (lv_at hl 0 rfl) ?_
    refine va_get (ci := 0) (v := .int (H_sz u27)) (C := RX0) (T := TX0) (N := 3) hx hb hts iw_X0_restore_X0 hown hK hP 0 rfl rfl 2 (by decide) (hts (.fieldLink RX0 21 "BallastTrack$History" "size" "I") (List.mem_of_getElem? (i := 1) rfl)) (fun _ h9 => h9) rfl dX0_restore_27 ?_
    refine lv_topi (fun x29 ex29 => ?_)
    replace hf := nm_i hf ex29
    refine lv_iadd hx hb dX0_restore_30 ?_
    refine lv_topi (fun x30 ex30 => ?_)
    replace hf := nm_i hf ex30
    refine lv_bipush (v := 6) hx hb dX0_restore_31 (by decide) ?_
    refine lv_irem hx hb dX0_restore_33 (by decide) ?_
    refine lv_topi (fun x31 ex31 => ?_)
    replace hf := nm_i hf ex31
    obtain ⟨hi32, hf⟩ := ix_i hf
    by_cases c33 : x31 = (0 : Int32)
    · replace hf := it_t hf c33
      refine va_aldq hx hb hK hP 1 3 rfl rfl hi32 dX0_restore_34 ?_
      refine W.eq (g2 := F0 m 35 ls [.ref (g (b + 2)), .ref (g b2)]) (by rw [c33]; rfl) ?_
      obtain ⟨o34, ho34, hf⟩ := bd_i hf
      refine cl_v [7, 1] [0, 2, 3, 4, 5, 6] [wH cT g b u27, wS cT g (b + 2) u_hi_r0, wS cT g (b + 10) u_hi_r1, wS cT g (b + 18) u_hi_r2, wS cT g (b + 26) u_hi_r3, wS cT g (b + 34) u_hi_r4, wS cT g (b + 42) u_hi_r5, wS cT g b2 o34] hP (va_D_adr hD rfl) hA hS (va_runV (As := [.ref (g (b + 2))]) (rest := []) ⟨hx, hb, hml, hown, hts⟩ (c_X1_copyFrom l D cT g b2 (b + 2) fu u_st u_hi_r0  o34 ho34 _) (cwV 1 hts gX0_restore_X1_copyFrom rfl rfl rfl (by decide +kernel) ⟨Nat.le_of_ble_eq_true rfl, Nat.le_of_ble_eq_true rfl⟩) ⟨PRE_blind, va_recv hK hP (ci := 1) (q0 := 50) rfl rfl, PRE_ok [7, 1] (by decide) hP (va_D_adr hD rfl) hA hS hK hN hZ⟩ rfl rfl hl.1 rfl (lv_room (Nat.le_of_ble_eq_true rfl)) dX0_restore_35 ⟨Nat.le_of_ble_eq_true rfl, Nat.le_of_ble_eq_true rfl⟩) rfl 8 rfl (by decide) (by decide) (fun H locs hP hS => ?_)
      obtain rfl := Option.some.inj hf
      subst hQ
      exact en_v hx hb hr hP hS hlocks dX0_restore_38
    replace hf := it_f hf c33
    by_cases c35 : x31 = (1 : Int32)
    · replace hf := it_t hf c35
      refine va_aldq hx hb hK hP 1 3 rfl rfl hi32 dX0_restore_34 ?_
      refine W.eq (g2 := F0 m 35 ls [.ref (g (b + 10)), .ref (g b2)]) (by rw [c35]; rfl) ?_
      obtain ⟨o36, ho36, hf⟩ := bd_i hf
      refine cl_v [7, 2] [0, 1, 3, 4, 5, 6] [wH cT g b u27, wS cT g (b + 2) u_hi_r0, wS cT g (b + 10) u_hi_r1, wS cT g (b + 18) u_hi_r2, wS cT g (b + 26) u_hi_r3, wS cT g (b + 34) u_hi_r4, wS cT g (b + 42) u_hi_r5, wS cT g b2 o36] hP (va_D_adr hD rfl) hA hS (va_runV (As := [.ref (g (b + 10))]) (rest := []) ⟨hx, hb, hml, hown, hts⟩ (c_X1_copyFrom l D cT g b2 (b + 10) fu u_st u_hi_r1  o36 ho36 _) (cwV 1 hts gX0_restore_X1_copyFrom rfl rfl rfl (by decide +kernel) ⟨Nat.le_of_ble_eq_true rfl, Nat.le_of_ble_eq_true rfl⟩) ⟨PRE_blind, va_recv hK hP (ci := 1) (q0 := 50) rfl rfl, PRE_ok [7, 2] (by decide) hP (va_D_adr hD rfl) hA hS hK hN hZ⟩ rfl rfl hl.1 rfl (lv_room (Nat.le_of_ble_eq_true rfl)) dX0_restore_35 ⟨Nat.le_of_ble_eq_true rfl, Nat.le_of_ble_eq_true rfl⟩) rfl 8 rfl (by decide) (by decide) (fun H locs hP hS => ?_)
      obtain rfl := Option.some.inj hf
      subst hQ
      exact en_v hx hb hr hP hS hlocks dX0_restore_38
    replace hf := it_f hf c35
    by_cases c37 : x31 = (2 : Int32)
    · replace hf := it_t hf c37
      refine va_aldq hx hb hK hP 1 3 rfl rfl hi32 dX0_restore_34 ?_
      refine W.eq (g2 := F0 m 35 ls [.ref (g (b + 18)), .ref (g b2)]) (by rw [c37]; rfl) ?_
      obtain ⟨o38, ho38, hf⟩ := bd_i hf
      refine cl_v [7, 3] [0, 1, 2, 4, 5, 6] [wH cT g b u27, wS cT g (b + 2) u_hi_r0, wS cT g (b + 10) u_hi_r1, wS cT g (b + 18) u_hi_r2, wS cT g (b + 26) u_hi_r3, wS cT g (b + 34) u_hi_r4, wS cT g (b + 42) u_hi_r5, wS cT g b2 o38] hP (va_D_adr hD rfl) hA hS (va_runV (As := [.ref (g (b + 18))]) (rest := []) ⟨hx, hb, hml, hown, hts⟩ (c_X1_copyFrom l D cT g b2 (b + 18) fu u_st u_hi_r2  o38 ho38 _) (cwV 1 hts gX0_restore_X1_copyFrom rfl rfl rfl (by decide +kernel) ⟨Nat.le_of_ble_eq_true rfl, Nat.le_of_ble_eq_true rfl⟩) ⟨PRE_blind, va_recv hK hP (ci := 1) (q0 := 50) rfl rfl, PRE_ok [7, 3] (by decide) hP (va_D_adr hD rfl) hA hS hK hN hZ⟩ rfl rfl hl.1 rfl (lv_room (Nat.le_of_ble_eq_true rfl)) dX0_restore_35 ⟨Nat.le_of_ble_eq_true rfl, Nat.le_of_ble_eq_true rfl⟩) rfl 8 rfl (by decide) (by decide) (fun H locs hP hS => ?_)
      obtain rfl := Option.some.inj hf
      subst hQ
      exact en_v hx hb hr hP hS hlocks dX0_restore_38
    replace hf := it_f hf c37
    by_cases c39 : x31 = (3 : Int32)
    · replace hf := it_t hf c39
      refine va_aldq hx hb hK hP 1 3 rfl rfl hi32 dX0_restore_34 ?_
      refine W.eq (g2 := F0 m 35 ls [.ref (g (b + 26)), .ref (g b2)]) (by rw [c39]; rfl) ?_
      obtain ⟨o40, ho40, hf⟩ := bd_i hf
      refine cl_v [7, 4] [0, 1, 2, 3, 5, 6] [wH cT g b u27, wS cT g (b + 2) u_hi_r0, wS cT g (b + 10) u_hi_r1, wS cT g (b + 18) u_hi_r2, wS cT g (b + 26) u_hi_r3, wS cT g (b + 34) u_hi_r4, wS cT g (b + 42) u_hi_r5, wS cT g b2 o40] hP (va_D_adr hD rfl) hA hS (va_runV (As := [.ref (g (b + 26))]) (rest := []) ⟨hx, hb, hml, hown, hts⟩ (c_X1_copyFrom l D cT g b2 (b + 26) fu u_st u_hi_r3  o40 ho40 _) (cwV 1 hts gX0_restore_X1_copyFrom rfl rfl rfl (by decide +kernel) ⟨Nat.le_of_ble_eq_true rfl, Nat.le_of_ble_eq_true rfl⟩) ⟨PRE_blind, va_recv hK hP (ci := 1) (q0 := 50) rfl rfl, PRE_ok [7, 4] (by decide) hP (va_D_adr hD rfl) hA hS hK hN hZ⟩ rfl rfl hl.1 rfl (lv_room (Nat.le_of_ble_eq_true rfl)) dX0_restore_35 ⟨Nat.le_of_ble_eq_true rfl, Nat.le_of_ble_eq_true rfl⟩) rfl 8 rfl (by decide) (by decide) (fun H locs hP hS => ?_)
      obtain rfl := Option.some.inj hf
      subst hQ
      exact en_v hx hb hr hP hS hlocks dX0_restore_38
    replace hf := it_f hf c39
    by_cases c41 : x31 = (4 : Int32)
    · replace hf := it_t hf c41
      refine va_aldq hx hb hK hP 1 3 rfl rfl hi32 dX0_restore_34 ?_
      refine W.eq (g2 := F0 m 35 ls [.ref (g (b + 34)), .ref (g b2)]) (by rw [c41]; rfl) ?_
      obtain ⟨o42, ho42, hf⟩ := bd_i hf
      refine cl_v [7, 5] [0, 1, 2, 3, 4, 6] [wH cT g b u27, wS cT g (b + 2) u_hi_r0, wS cT g (b + 10) u_hi_r1, wS cT g (b + 18) u_hi_r2, wS cT g (b + 26) u_hi_r3, wS cT g (b + 34) u_hi_r4, wS cT g (b + 42) u_hi_r5, wS cT g b2 o42] hP (va_D_adr hD rfl) hA hS (va_runV (As := [.ref (g (b + 34))]) (rest := []) ⟨hx, hb, hml, hown, hts⟩ (c_X1_copyFrom l D cT g b2 (b + 34) fu u_st u_hi_r4  o42 ho42 _) (cwV 1 hts gX0_restore_X1_copyFrom rfl rfl rfl (by decide +kernel) ⟨Nat.le_of_ble_eq_true rfl, Nat.le_of_ble_eq_true rfl⟩) ⟨PRE_blind, va_recv hK hP (ci := 1) (q0 := 50) rfl rfl, PRE_ok [7, 5] (by decide) hP (va_D_adr hD rfl) hA hS hK hN hZ⟩ rfl rfl hl.1 rfl (lv_room (Nat.le_of_ble_eq_true rfl)) dX0_restore_35 ⟨Nat.le_of_ble_eq_true rfl, Nat.le_of_ble_eq_true rfl⟩) rfl 8 rfl (by decide) (by decide) (fun H locs hP hS => ?_)
      obtain rfl := Option.some.inj hf
      subst hQ
      exact en_v hx hb hr hP hS hlocks dX0_restore_38
    replace hf := it_f hf c41
    by_cases c43 : x31 = (5 : Int32)
    · replace hf := it_t hf c43
      refine va_aldq hx hb hK hP 1 3 rfl rfl hi32 dX0_restore_34 ?_
      refine W.eq (g2 := F0 m 35 ls [.ref (g (b + 42)), .ref (g b2)]) (by rw [c43]; rfl) ?_
      obtain ⟨o44, ho44, hf⟩ := bd_i hf
      refine cl_v [7, 6] [0, 1, 2, 3, 4, 5] [wH cT g b u27, wS cT g (b + 2) u_hi_r0, wS cT g (b + 10) u_hi_r1, wS cT g (b + 18) u_hi_r2, wS cT g (b + 26) u_hi_r3, wS cT g (b + 34) u_hi_r4, wS cT g (b + 42) u_hi_r5, wS cT g b2 o44] hP (va_D_adr hD rfl) hA hS (va_runV (As := [.ref (g (b + 42))]) (rest := []) ⟨hx, hb, hml, hown, hts⟩ (c_X1_copyFrom l D cT g b2 (b + 42) fu u_st u_hi_r5  o44 ho44 _) (cwV 1 hts gX0_restore_X1_copyFrom rfl rfl rfl (by decide +kernel) ⟨Nat.le_of_ble_eq_true rfl, Nat.le_of_ble_eq_true rfl⟩) ⟨PRE_blind, va_recv hK hP (ci := 1) (q0 := 50) rfl rfl, PRE_ok [7, 6] (by decide) hP (va_D_adr hD rfl) hA hS hK hN hZ⟩ rfl rfl hl.1 rfl (lv_room (Nat.le_of_ble_eq_true rfl)) dX0_restore_35 ⟨Nat.le_of_ble_eq_true rfl, Nat.le_of_ble_eq_true rfl⟩) rfl 8 rfl (by decide) (by decide) (fun H locs hP hS => ?_)
      obtain rfl := Option.some.inj hf
      subst hQ
      exact en_v hx hb hr hP hS hlocks dX0_restore_38
    replace hf := it_f hf c43
    cases hf
