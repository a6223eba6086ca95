theorem iw_X4_begin_X1 : ∀ w ∈ u_ws RX1 TX1 9, w ∈ wsX4_begin := by decide +kernel
theorem iw_X4_begin_X4 : ∀ w ∈ u_ws RX4 TX4 8, w ∈ wsX4_begin := by decide +kernel
def f_X4_begin (fu : Nat) (u_now : TS) (u_history : TH) (u_history_r0 : TS) (u_history_r1 : TS) (u_history_r2 : TS) (u_history_r3 : TS) (u_history_r4 : TS) (u_history_r5 : TS) (p0 : Int32) : Option (Int32 × TS × TH × TS × TS × TS × TS × TS × TS) :=
bd (f_X4_isWithin fu  p0 ((10 : Int32)) ((60 : Int32))) fun (o6 : Bool) =>
if ¬ bI o6 = 0 then (
nm (S_sl u_now) fun (x8 : Int32) =>
bd (f_X0_save fu u_history u_history_r0 u_history_r1 u_history_r2 u_history_r3 u_history_r4 u_history_r5 u_now ) fun (o9 : TH × TS × TS × TS × TS × TS × TS) =>
bd (f_X1_makeNew fu u_now p0) fun (o10 : TS) =>
some (x8, o10, o9.1, o9.2.1, o9.2.2.1, o9.2.2.2.1, o9.2.2.2.2.1, o9.2.2.2.2.2.1, o9.2.2.2.2.2.2)
)
else (
some ((-100001 : Int32), u_now, u_history, u_history_r0, u_history_r1, u_history_r2, u_history_r3, u_history_r4, u_history_r5)
)

abbrev rm_X4_begin : Room := { frames := 3, cells := 0, slots := 0, locals := 102 }
set_option maxHeartbeats 4000000 in
set_option maxRecDepth 100000 in
theorem c_X4_begin (l : Launch) (D : va_G) (cT : Nat → ClassId) (g : Nat → Nat) (fu : Nat) (u_now : TS) (u_history : TH) (u_history_r0 : TS) (u_history_r1 : TS) (u_history_r2 : TS) (u_history_r3 : TS) (u_history_r4 : TS) (u_history_r5 : TS) (p0 : Int32) (o : Int32 × TS × TH × TS × TS × TS × TS × TS × TS) (hf : f_X4_begin fu u_now u_history u_history_r0 u_history_r1 u_history_r2 u_history_r3 u_history_r4 u_history_r5 p0 = some o) (sz : Nat) : Met l yX4_begin wsX4_begin rm_X4_begin (va_Pc [.ref (g 0), .int p0] (PRE D cT sz (List.flatten [wT g, wS cT g 1 u_now, wH cT g 25 u_history, wS cT g 27 u_history_r0, wS cT g 35 u_history_r1, wS cT g 43 u_history_r2, wS cT g 51 u_history_r3, wS cT g 59 u_history_r4, wS cT g 67 u_history_r5]))) (QI D o.1 (List.flatten [wT g, wS cT g 1 o.2.1, wH cT g 25 o.2.2.1, wS cT g 27 o.2.2.2.1, wS cT g 35 o.2.2.2.2.1, wS cT g 43 o.2.2.2.2.2.1, wS cT g 51 o.2.2.2.2.2.2.1, wS cT g 59 o.2.2.2.2.2.2.2.1, wS cT g 67 o.2.2.2.2.2.2.2.2]) (va_A (List.flatten [wT g, wS cT g 1 u_now, wH cT g 25 u_history, wS cT g 27 u_history_r0, wS cT g 35 u_history_r1, wS cT g 43 u_history_r2, wS cT g 51 u_history_r3, wS cT g 59 u_history_r4, wS cT g 67 u_history_r5]) sz)) 0 0 (va_A (List.flatten [wT g, wS cT g 1 u_now, wH cT g 25 u_history, wS cT g 27 u_history_r0, wS cT g 35 u_history_r1, wS cT g 43 u_history_r2, wS cT g 51 u_history_r3, wS cT g 59 u_history_r4, wS cT g 67 u_history_r5]) sz) := by
  refine Met.ofW (cc := cX4_begin) (maxL := 3) (ret := (some .int)) (by decide) rfl ?_
  intro p e s m args below meth c s₁ B0 hml hv
  obtain ⟨hav, hsz, hP, hK, hD, hN, hZ⟩ := hv
  have hx := B0.exec
  have hb := B0.bytes
  have hr := B0.returns
  have hts := atoms_spec (ws := wsX4_begin) B0.pre
  have hown : s.vm.findClass RX4 = some m.cls := findClass_of_methodNamed B0.named
  have hlocks := B0.notSynchronized
  subst hsz
  have hD := hD.self (sz := s.heap.size)
  have hA : ∀ q : Nat, s.heap.size ≤ q → va_A (List.flatten [wT g, wS cT g 1 u_now, wH cT g 25 u_history, wS cT g 27 u_history_r0, wS cT g 35 u_history_r1, wS cT g 43 u_history_r2, wS cT g 51 u_history_r3, wS cT g 59 u_history_r4, wS cT g 67 u_history_r5]) s.heap.size q := fun q h => Or.inr h
  generalize va_A (List.flatten [wT g, wS cT g 1 u_now, wH cT g 25 u_history, wS cT g 27 u_history_r0, wS cT g 35 u_history_r1, wS cT g 43 u_history_r2, wS cT g 51 u_history_r3, wS cT g 59 u_history_r4, wS cT g 67 u_history_r5]) s.heap.size = A at hD hZ hA ⊢
  have hS : va_S A s.heap s.heap [] := va_S.rf
  have hl := lv_entry ([.ref (g 0), .int p0]) (n := 3) (Nat.le_of_ble_eq_true rfl)
  rw [hav]
  rw [lg_entry_eq]
  generalize (lg_sl ([.ref (g 0), .int p0]) ++ List.replicate (3 - (lg_sl ([.ref (g 0), .int p0])).length) Slot.unset).toArray = ls at hl ⊢
  have hl : lv_has ls 3 [(0, .ref (g 0)), (1, .int p0)] := hl
  rw [← hav]
  generalize hQ : MQ below _ _ _ _ _ _ = Q
  show W p l e rm_X4_begin s m args below meth c s.heap [] 0 0 Q (F0 m 0 ls [])
  unfold f_X4_begin at hf
  refine lv_iload_n hx hb dX4_begin_0 rfl (lv_at hl 1 rfl) ?_
  refine lv_bipush (v := 10) hx hb dX4_begin_1 (by decide) ?_
  refine lv_bipush (v := 60) hx hb dX4_begin_3 (by decide) ?_
  obtain ⟨o6, ho6, hf⟩ := bd_i hf
  refine cl_i [] [0, 1, 2, 3, 4, 5, 6, 7, 8] [wT g, wS cT g 1 u_now, wH cT g 25 u_history, wS cT g 27 u_history_r0, wS cT g 35 u_history_r1, wS cT g 43 u_history_r2, wS cT g 51 u_history_r3, wS cT g 59 u_history_r4, wS cT g 67 u_history_r5] hP (va_D_adr hD rfl) hA hS (va_runS (As := [.int p0, .int ((10 : Int32)), .int ((60 : Int32))]) (rest := []) ⟨hx, hb, hml, hown, hts⟩ (c_X4_isWithin l D cT g  fu  p0 ((10 : Int32)) ((60 : Int32)) o6 ho6 _) (va_cwS 3 hts gX4_begin_X4_isWithin rfl rfl rfl (by decide +kernel) ⟨Nat.le_of_ble_eq_true rfl, Nat.le_of_ble_eq_true rfl⟩) ⟨PRE_blind, PRE_ok [] (by decide) hP (va_D_adr hD rfl) hA hS hK hN hZ⟩ rfl rfl hl.1 rfl (lv_room (Nat.le_of_ble_eq_true rfl)) dX4_begin_5 ⟨Nat.le_of_ble_eq_true rfl, Nat.le_of_ble_eq_true rfl⟩) rfl 9 rfl (by decide) (by decide) (fun H locs hP hS => ?_)
  refine lv_if_ne (tgt := 14) hx hb dX4_begin_8 (by decide) (fun c7 => ?_) (fun c7 => ?_)
  · replace hf := it_t hf c7
    refine lv_aload_n hx hb dX4_begin_14 rfl (lv_at hl 0 rfl) ?_
    refine va_get (ci := 4) (v := .ref (g 1)) (C := RX4) (T := TX4) (N := 8) hx hb hts iw_X4_begin_X4 hown hK hP 0 rfl rfl 0 (by decide) (hts (.fieldLink RX4 10 "BallastTrack" "now" "LBallastTrack$State;") (List.mem_of_getElem? (i := 2) rfl)) (fun _ h9 => h9) rfl dX4_begin_15 ?_
    refine va_get (ci := 1) (v := .int (S_sl u_now)) (C := RX1) (T := TX1) (N := 9) hx hb hts iw_X4_begin_X1 hown hK hP 1 rfl rfl 0 (by decide) (hts (.fieldLink RX4 58 "BallastTrack$State" "sleepers" "I") (List.mem_of_getElem? (i := 3) rfl)) (fun _ h9 => h9) rfl dX4_begin_18 ?_
    refine lv_topi (fun x8 ex8 => ?_)
    replace hf := nm_i hf ex8
    refine lv_istore_n (lv' := [(2, .int x8), (0, .ref (g 0)), (1, .int p0)]) hx hb dX4_begin_21 rfl hl (by decide) rfl (fun ls hl => ?_)
    refine lv_aload_n hx hb dX4_begin_22 rfl (lv_at hl 1 rfl) ?_
    refine va_get (ci := 4) (v := .ref (g 25)) (C := RX4) (T := TX4) (N := 8) hx hb hts iw_X4_begin_X4 hown hK hP 0 rfl rfl 4 (by decide) (hts (.fieldLink RX4 34 "BallastTrack" "history" "LBallastTrack$History;") (List.mem_of_getElem? (i := 4) rfl)) (fun _ h9 => h9) rfl dX4_begin_23 ?_
    refine lv_aload_n hx hb dX4_begin_26 rfl (lv_at hl 1 rfl) ?_
    refine va_get (ci := 4) (v := .ref (g 1)) (C := RX4) (T := TX4) (N := 8) hx hb hts iw_X4_begin_X4 hown hK hP 0 rfl rfl 0 (by decide) (hts (.fieldLink RX4 10 "BallastTrack" "now" "LBallastTrack$State;") (List.mem_of_getElem? (i := 2) rfl)) (fun _ h9 => h9) rfl dX4_begin_27 ?_
    obtain ⟨o9, ho9, hf⟩ := bd_i hf
    refine cl_v [2, 3, 4, 5, 6, 7, 8, 1] [0] [wT g, wS cT g 1 u_now, wH cT g 25 o9.1, wS cT g 27 o9.2.1, wS cT g 35 o9.2.2.1, wS cT g 43 o9.2.2.2.1, wS cT g 51 o9.2.2.2.2.1, wS cT g 59 o9.2.2.2.2.2.1, wS cT g 67 o9.2.2.2.2.2.2] hP (va_D_adr hD rfl) hA hS (va_runV (As := [.ref (g 1)]) (rest := []) ⟨hx, hb, hml, hown, hts⟩ (c_X0_save l D cT g 25 1 fu u_history u_history_r0 u_history_r1 u_history_r2 u_history_r3 u_history_r4 u_history_r5 u_now  o9 ho9 _) (cwV 1 hts gX4_begin_X0_save rfl rfl rfl (by decide +kernel) ⟨Nat.le_of_ble_eq_true rfl, Nat.le_of_ble_eq_true rfl⟩) ⟨PRE_blind, va_recv hK hP (ci := 0) (q0 := 9) rfl rfl, PRE_ok [2, 3, 4, 5, 6, 7, 8, 1] (by decide) hP (va_D_adr hD rfl) hA hS hK hN hZ⟩ rfl rfl hl.1 rfl (lv_room (Nat.le_of_ble_eq_true rfl)) dX4_begin_30 ⟨Nat.le_of_ble_eq_true rfl, Nat.le_of_ble_eq_true rfl⟩) rfl 9 rfl (by decide) (by decide) (fun H locs hP hS => ?_)
    refine lv_aload_n hx hb dX4_begin_33 rfl (lv_at hl 1 rfl) ?_
    refine va_get (ci := 4) (v := .ref (g 1)) (C := RX4) (T := TX4) (N := 8) hx hb hts iw_X4_begin_X4 hown hK hP 0 rfl rfl 0 (by decide) (hts (.fieldLink RX4 10 "BallastTrack" "now" "LBallastTrack$State;") (List.mem_of_getElem? (i := 2) rfl)) (fun _ h9 => h9) rfl dX4_begin_34 ?_
    refine lv_iload_n hx hb dX4_begin_37 rfl (lv_at hl 2 rfl) ?_
    obtain ⟨o10, ho10, hf⟩ := bd_i hf
    refine cl_v [1] [0, 2, 3, 4, 5, 6, 7, 8] [wT g, wS cT g 1 o10, wH cT g 25 o9.1, wS cT g 27 o9.2.1, wS cT g 35 o9.2.2.1, wS cT g 43 o9.2.2.2.1, wS cT g 51 o9.2.2.2.2.1, wS cT g 59 o9.2.2.2.2.2.1, wS cT g 67 o9.2.2.2.2.2.2] hP (va_D_adr hD rfl) hA hS (va_runV (As := [.int p0]) (rest := []) ⟨hx, hb, hml, hown, hts⟩ (c_X1_makeNew l D cT g 1 fu u_now p0 o10 ho10 _) (cwV 1 hts gX4_begin_X1_makeNew rfl rfl rfl (by decide +kernel) ⟨Nat.le_of_ble_eq_true rfl, Nat.le_of_ble_eq_true rfl⟩) ⟨PRE_blind, va_recv hK hP (ci := 1) (q0 := 1) rfl rfl, PRE_ok [1] (by decide) hP (va_D_adr hD rfl) hA hS hK hN hZ⟩ rfl rfl hl.1 rfl (lv_room (Nat.le_of_ble_eq_true rfl)) dX4_begin_38 ⟨Nat.le_of_ble_eq_true rfl, Nat.le_of_ble_eq_true rfl⟩) rfl 9 rfl (by decide) (by decide) (fun H locs hP hS => ?_)
    refine lv_iload_n hx hb dX4_begin_41 rfl (lv_at hl 0 rfl) ?_
    obtain rfl := Option.some.inj hf
    subst hQ
    exact en_i hx hb hr hP hS hlocks dX4_begin_42
  · replace hf := it_f hf (not_not_intro c7)
    refine lv_ldc (v := -100001) hx hb hown (hts (.constant RX4 57 (-100001)) (List.mem_of_getElem? (i := 1) rfl)) dX4_begin_11 ?_
    obtain rfl := Option.some.inj hf
    subst hQ
    exact en_i hx hb hr hP hS hlocks dX4_begin_13
theorem iw_X4_greatestNumber_X1 : ∀ w ∈ u_ws RX1 TX1 9, w ∈ wsX4_greatestNumber := by decide +kernel
theorem iw_X4_greatestNumber_X4 : ∀ w ∈ u_ws RX4 TX4 8, w ∈ wsX4_greatestNumber := by decide +kernel
def f_X4_greatestNumber (fu : Nat) (u_now : TS) (p0 : Int32) : Option (Int32) :=
jn (nm (p0 + (1 : Int32)) fun (x26 : Int32) =>
ix x26 8 <|
nm ((S_nu u_now) x26.toNatClampNeg) fun (x28 : Int32) =>
nm (x28 - (1 : Int32)) fun (x29 : Int32) =>
some (x29)
) fun K10_25 =>
if p0 = (3 : Int32) then (
K10_25 
)
else (
if ¬ p0 = (4 : Int32) then (
ix p0 8 <|
nm (tG p0.toNatClampNeg) fun (x33 : Int32) =>
some (x33)
)
else (
K10_25 
)
)

abbrev rm_X4_greatestNumber : Room := { frames := 0, cells := 0, slots := 0, locals := 0 }
set_option maxHeartbeats 4000000 in
set_option maxRecDepth 100000 in
theorem c_X4_greatestNumber (l : Launch) (D : va_G) (cT : Nat → ClassId) (g : Nat → Nat) (fu : Nat) (u_now : TS) (p0 : Int32) (o : Int32) (hf : f_X4_greatestNumber fu u_now p0 = some o) (sz : Nat) : Met l yX4_greatestNumber wsX4_greatestNumber rm_X4_greatestNumber (va_Pc [.ref (g 0), .int p0] (PRE D cT sz (List.flatten [wT g, wS cT g 1 u_now]))) (QI D o (List.flatten [wT g, wS cT g 1 u_now]) (va_A (List.flatten [wT g, wS cT g 1 u_now]) sz)) 0 0 (va_A (List.flatten [wT g, wS cT g 1 u_now]) sz) := by
  refine Met.ofW (cc := cX4_greatestNumber) (maxL := 2) (ret := (some .int)) (by decide) rfl ?_
  intro p e s m args below meth c s₁ B0 hml hv
  obtain ⟨hav, hsz, hP, hK, hD, hN, hZ⟩ := hv
  have hx := B0.exec
  have hb := B0.bytes
  have hr := B0.returns
  have hts := atoms_spec (ws := wsX4_greatestNumber) B0.pre
  have hown : s.vm.findClass RX4 = some m.cls := findClass_of_methodNamed B0.named
  have hlocks := B0.notSynchronized
  subst hsz
  have hD := hD.self (sz := s.heap.size)
  have hA : ∀ q : Nat, s.heap.size ≤ q → va_A (List.flatten [wT g, wS cT g 1 u_now]) s.heap.size q := fun q h => Or.inr h
  generalize va_A (List.flatten [wT g, wS cT g 1 u_now]) s.heap.size = A at hD hZ hA ⊢
  have hS : va_S A s.heap s.heap [] := va_S.rf
  have hl := lv_entry ([.ref (g 0), .int p0]) (n := 2) (Nat.le_of_ble_eq_true rfl)
  rw [hav]
  rw [lg_entry_eq]
  generalize (lg_sl ([.ref (g 0), .int p0]) ++ List.replicate (2 - (lg_sl ([.ref (g 0), .int p0])).length) Slot.unset).toArray = ls at hl ⊢
  have hl : lv_has ls 2 [(0, .ref (g 0)), (1, .int p0)] := hl
  rw [← hav]
  generalize hQ : MQ below _ _ _ _ _ _ = Q
  show W p l e rm_X4_greatestNumber s m args below meth c s.heap [] 0 0 Q (F0 m 0 ls [])
  unfold f_X4_greatestNumber at hf
  refine lv_iload_n hx hb dX4_greatestNumber_0 rfl (lv_at hl 1 rfl) ?_
  refine lv_iconst (v := 3) hx hb dX4_greatestNumber_1 (by decide) ?_
  obtain ⟨K10_25, eK10_25, hf⟩ := jn_i hf
  have hK10_25 : ∀  (H : Heap) (locs : List Loc) (ls : Array Slot), K10_25  = some o → va_P D vwCl (List.flatten [wT g, wS cT g 1 u_now]) H → va_S A s.heap H locs → lv_has ls 2 [(0, .ref (g 0)), (1, .int p0)] → W p l e rm_X4_greatestNumber s m args below meth c H locs 0 0 Q (F0 m 10 ls []) := by
    intro  H locs ls hf hP hS hl
    rw [eK10_25] at hf
    refine lv_aload_n hx hb dX4_greatestNumber_10 rfl (lv_at hl 0 rfl) ?_
    refine va_get (ci := 4) (v := .ref (g 1)) (C := RX4) (T := TX4) (N := 8) hx hb hts iw_X4_greatestNumber_X4 hown hK hP 0 rfl rfl 0 (by decide) (hts (.fieldLink RX4 10 "BallastTrack" "now" "LBallastTrack$State;") (List.mem_of_getElem? (i := 1) rfl)) (fun _ h9 => h9) rfl dX4_greatestNumber_11 ?_
    refine va_get (ci := 1) (v := .ref (g (1 + 1))) (C := RX1) (T := TX1) (N := 9) hx hb hts iw_X4_greatestNumber_X1 hown hK hP 1 rfl rfl 2 (by decide) (hts (.fieldLink RX4 76 "BallastTrack$State" "numbers" "[I") (List.mem_of_getElem? (i := 2) rfl)) (fun _ h9 => h9) rfl dX4_greatestNumber_14 ?_
    refine lv_iload_n hx hb dX4_greatestNumber_17 rfl (lv_at hl 1 rfl) ?_
    refine lv_iconst (v := 1) hx hb dX4_greatestNumber_18 (by decide) ?_
    refine lv_iadd hx hb dX4_greatestNumber_19 ?_
    refine lv_topi (fun x26 ex26 => ?_)
    replace hf := nm_i hf ex26
    obtain ⟨hi27, hf⟩ := ix_i hf
    refine va_iald hx hb hK hP 2 0 rfl rfl hi27 dX4_greatestNumber_20 ?_
    refine lv_topi (fun x28 ex28 => ?_)
    replace hf := nm_i hf ex28
    refine lv_iconst (v := 1) hx hb dX4_greatestNumber_21 (by decide) ?_
    refine lv_isub hx hb dX4_greatestNumber_22 ?_
    refine lv_topi (fun x29 ex29 => ?_)
    replace hf := nm_i hf ex29
    obtain rfl := Option.some.inj hf
    subst hQ
    exact en_i hx hb hr hP hS hlocks dX4_greatestNumber_23
  clear eK10_25
  refine lv_icmp_eq (tgt := 10) hx hb dX4_greatestNumber_2 (by decide) (fun c30 => ?_) (fun c30 => ?_)
  · replace hf := it_t hf c30
    exact hK10_25  _ _ _ hf hP hS (lv_sub hl [0, 1] rfl)
  · replace hf := it_f hf c30
    refine lv_iload_n hx hb dX4_greatestNumber_5 rfl (lv_at hl 1 rfl) ?_
    refine lv_iconst (v := 4) hx hb dX4_greatestNumber_6 (by decide) ?_
    refine lv_icmp_ne (tgt := 24) hx hb dX4_greatestNumber_7 (by decide) (fun c31 => ?_) (fun c31 => ?_)
    · replace hf := it_t hf c31
      obtain ⟨tGREATEST_NUMBERS, hzGREATEST_NUMBERS, htGREATEST_NUMBERS⟩ := hZ.2.2
      refine va_gets hx hb hzGREATEST_NUMBERS hS hown (hts (.fieldLink RX4 204 "BallastTrack" "GREATEST_NUMBERS" "[I") (List.mem_of_getElem? (i := 3) rfl)) (fun _ h9 => h9) dX4_greatestNumber_24 ?_
      refine lv_iload_n hx hb dX4_greatestNumber_27 rfl (lv_at hl 1 rfl) ?_
      obtain ⟨hi32, hf⟩ := ix_i hf
      refine va_ti (v := .int (tG p0.toNatClampNeg)) hx hb htGREATEST_NUMBERS hS hi32 rfl dX4_greatestNumber_28 ?_
      refine lv_topi (fun x33 ex33 => ?_)
      replace hf := nm_i hf ex33
      obtain rfl := Option.some.inj hf
      subst hQ
      exact en_i hx hb hr hP hS hlocks dX4_greatestNumber_29
    · replace hf := it_f hf (not_not_intro c31)
      exact hK10_25  _ _ _ hf hP hS (lv_sub hl [0, 1] rfl)
theorem iw_X4_leastNumber_X1 : ∀ w ∈ u_ws RX1 TX1 9, w ∈ wsX4_leastNumber := by decide +kernel
theorem iw_X4_leastNumber_X4 : ∀ w ∈ u_ws RX4 TX4 8, w ∈ wsX4_leastNumber := by decide +kernel
def f_X4_leastNumber (fu : Nat) (u_now : TS) (p0 : Int32) : Option (Int32) :=
jn (nm (p0 - (1 : Int32)) fun (x26 : Int32) =>
ix x26 8 <|
nm ((S_nu u_now) x26.toNatClampNeg) fun (x28 : Int32) =>
nm (x28 + (1 : Int32)) fun (x29 : Int32) =>
some (x29)
) fun K10_25 =>
if p0 = (4 : Int32) then (
K10_25 
)
else (
if ¬ p0 = (5 : Int32) then (
ix p0 8 <|
nm (tL p0.toNatClampNeg) fun (x33 : Int32) =>
some (x33)
)
else (
K10_25 
)
)

abbrev rm_X4_leastNumber : Room := { frames := 0, cells := 0, slots := 0, locals := 0 }
set_option maxHeartbeats 4000000 in
set_option maxRecDepth 100000 in
theorem c_X4_leastNumber (l : Launch) (D : va_G) (cT : Nat → ClassId) (g : Nat → Nat) (fu : Nat) (u_now : TS) (p0 : Int32) (o : Int32) (hf : f_X4_leastNumber fu u_now p0 = some o) (sz : Nat) : Met l yX4_leastNumber wsX4_leastNumber rm_X4_leastNumber (va_Pc [.ref (g 0), .int p0] (PRE D cT sz (List.flatten [wT g, wS cT g 1 u_now]))) (QI D o (List.flatten [wT g, wS cT g 1 u_now]) (va_A (List.flatten [wT g, wS cT g 1 u_now]) sz)) 0 0 (va_A (List.flatten [wT g, wS cT g 1 u_now]) sz) := by
  refine Met.ofW (cc := cX4_leastNumber) (maxL := 2) (ret := (some .int)) (by decide) rfl ?_
  intro p e s m args below meth c s₁ B0 hml hv
  obtain ⟨hav, hsz, hP, hK, hD, hN, hZ⟩ := hv
  have hx := B0.exec
  have hb := B0.bytes
  have hr := B0.returns
  have hts := atoms_spec (ws := wsX4_leastNumber) B0.pre
  have hown : s.vm.findClass RX4 = some m.cls := findClass_of_methodNamed B0.named
  have hlocks := B0.notSynchronized
  subst hsz
  have hD := hD.self (sz := s.heap.size)
  have hA : ∀ q : Nat, s.heap.size ≤ q → va_A (List.flatten [wT g, wS cT g 1 u_now]) s.heap.size q := fun q h => Or.inr h
  generalize va_A (List.flatten [wT g, wS cT g 1 u_now]) s.heap.size = A at hD hZ hA ⊢
  have hS : va_S A s.heap s.heap [] := va_S.rf
  have hl := lv_entry ([.ref (g 0), .int p0]) (n := 2) (Nat.le_of_ble_eq_true rfl)
  rw [hav]
  rw [lg_entry_eq]
  generalize (lg_sl ([.ref (g 0), .int p0]) ++ List.replicate (2 - (lg_sl ([.ref (g 0), .int p0])).length) Slot.unset).toArray = ls at hl ⊢
  have hl : lv_has ls 2 [(0, .ref (g 0)), (1, .int p0)] := hl
  rw [← hav]
  generalize hQ : MQ below _ _ _ _ _ _ = Q
  show W p l e rm_X4_leastNumber s m args below meth c s.heap [] 0 0 Q (F0 m 0 ls [])
  unfold f_X4_leastNumber at hf
  refine lv_iload_n hx hb dX4_leastNumber_0 rfl (lv_at hl 1 rfl) ?_
  refine lv_iconst (v := 4) hx hb dX4_leastNumber_1 (by decide) ?_
  obtain ⟨K10_25, eK10_25, hf⟩ := jn_i hf
  have hK10_25 : ∀  (H : Heap) (locs : List Loc) (ls : Array Slot), K10_25  = some o → va_P D vwCl (List.flatten [wT g, wS cT g 1 u_now]) H → va_S A s.heap H locs → lv_has ls 2 [(0, .ref (g 0)), (1, .int p0)] → W p l e rm_X4_leastNumber s m args below meth c H locs 0 0 Q (F0 m 10 ls []) := by
    intro  H locs ls hf hP hS hl
    rw [eK10_25] at hf
    refine lv_aload_n hx hb dX4_leastNumber_10 rfl (lv_at hl 0 rfl) ?_
    refine va_get (ci := 4) (v := .ref (g 1)) (C := RX4) (T := TX4) (N := 8) hx hb hts iw_X4_leastNumber_X4 hown hK hP 0 rfl rfl 0 (by decide) (hts (.fieldLink RX4 10 "BallastTrack" "now" "LBallastTrack$State;") (List.mem_of_getElem? (i := 1) rfl)) (fun _ h9 => h9) rfl dX4_leastNumber_11 ?_
    refine va_get (ci := 1) (v := .ref (g (1 + 1))) (C := RX1) (T := TX1) (N := 9) hx hb hts iw_X4_leastNumber_X1 hown hK hP 1 rfl rfl 2 (by decide) (hts (.fieldLink RX4 76 "BallastTrack$State" "numbers" "[I") (List.mem_of_getElem? (i := 2) rfl)) (fun _ h9 => h9) rfl dX4_leastNumber_14 ?_
    refine lv_iload_n hx hb dX4_leastNumber_17 rfl (lv_at hl 1 rfl) ?_
    refine lv_iconst (v := 1) hx hb dX4_leastNumber_18 (by decide) ?_
    refine lv_isub hx hb dX4_leastNumber_19 ?_
    refine lv_topi (fun x26 ex26 => ?_)
    replace hf := nm_i hf ex26
    obtain ⟨hi27, hf⟩ := ix_i hf
    refine va_iald hx hb hK hP 2 0 rfl rfl hi27 dX4_leastNumber_20 ?_
    refine lv_topi (fun x28 ex28 => ?_)
    replace hf := nm_i hf ex28
    refine lv_iconst (v := 1) hx hb dX4_leastNumber_21 (by decide) ?_
    refine lv_iadd hx hb dX4_leastNumber_22 ?_
    refine lv_topi (fun x29 ex29 => ?_)
    replace hf := nm_i hf ex29
    obtain rfl := Option.some.inj hf
    subst hQ
    exact en_i hx hb hr hP hS hlocks dX4_leastNumber_23
  clear eK10_25
  refine lv_icmp_eq (tgt := 10) hx hb dX4_leastNumber_2 (by decide) (fun c30 => ?_) (fun c30 => ?_)
  · replace hf := it_t hf c30
    exact hK10_25  _ _ _ hf hP hS (lv_sub hl [0, 1] rfl)
  · replace hf := it_f hf c30
    refine lv_iload_n hx hb dX4_leastNumber_5 rfl (lv_at hl 1 rfl) ?_
    refine lv_iconst (v := 5) hx hb dX4_leastNumber_6 (by decide) ?_
    refine lv_icmp_ne (tgt := 24) hx hb dX4_leastNumber_7 (by decide) (fun c31 => ?_) (fun c31 => ?_)
    · replace hf := it_t hf c31
      obtain ⟨tLEAST_NUMBERS, hzLEAST_NUMBERS, htLEAST_NUMBERS⟩ := hZ.2.1
      refine va_gets hx hb hzLEAST_NUMBERS hS hown (hts (.fieldLink RX4 201 "BallastTrack" "LEAST_NUMBERS" "[I") (List.mem_of_getElem? (i := 3) rfl)) (fun _ h9 => h9) dX4_leastNumber_24 ?_
      refine lv_iload_n hx hb dX4_leastNumber_27 rfl (lv_at hl 1 rfl) ?_
      obtain ⟨hi32, hf⟩ := ix_i hf
      refine va_ti (v := .int (tL p0.toNatClampNeg)) hx hb htLEAST_NUMBERS hS hi32 rfl dX4_leastNumber_28 ?_
      refine lv_topi (fun x33 ex33 => ?_)
      replace hf := nm_i hf ex33
      obtain rfl := Option.some.inj hf
      subst hQ
      exact en_i hx hb hr hP hS hlocks dX4_leastNumber_29
    · replace hf := it_f hf (not_not_intro c31)
      exact hK10_25  _ _ _ hf hP hS (lv_sub hl [0, 1] rfl)
theorem iw_X4_setNumber_X1 : ∀ w ∈ u_ws RX1 TX1 9, w ∈ wsX4_setNumber := by decide +kernel
theorem iw_X4_setNumber_X4 : ∀ w ∈ u_ws RX4 TX4 8, w ∈ wsX4_setNumber := by decide +kernel
def f_X4_setNumber (fu : Nat) (u_now : TS) (u_history : TH) (u_history_r0 : TS) (u_history_r1 : TS) (u_history_r2 : TS) (u_history_r3 : TS) (u_history_r4 : TS) (u_history_r5 : TS) (p0 : Int32) (p1 : Int32) : Option (Int32 × TS × TH × TS × TS × TS × TS × TS × TS) :=
bd (f_X4_isWithin fu  p0 ((0 : Int32)) ((7 : Int32))) fun (o12 : Bool) =>
if bI o12 = 0 then (
some ((-100001 : Int32), u_now, u_history, u_history_r0, u_history_r1, u_history_r2, u_history_r3, u_history_r4, u_history_r5)
)
else (
bd (f_X4_leastNumber fu u_now p0) fun (o14 : Int32) =>
bd (f_X4_greatestNumber fu u_now p0) fun (o15 : Int32) =>
bd (f_X4_isWithin fu  p1 o14 o15) fun (o16 : Bool) =>
if ¬ bI o16 = 0 then (
ix p0 8 <|
nm ((S_nu u_now) p0.toNatClampNeg) fun (x19 : Int32) =>
bd (f_X0_save fu u_history u_history_r0 u_history_r1 u_history_r2 u_history_r3 u_history_r4 u_history_r5 u_now ) fun (o20 : TH × TS × TS × TS × TS × TS × TS) =>
ix p0 8 <|
nm (S_nu_ u_now (upd (S_nu u_now) p0.toNatClampNeg p1)) fun (u22 : TS) =>
some (x19, u22, o20.1, o20.2.1, o20.2.2.1, o20.2.2.2.1, o20.2.2.2.2.1, o20.2.2.2.2.2.1, o20.2.2.2.2.2.2)
)
else (
some ((-100001 : Int32), u_now, u_history, u_history_r0, u_history_r1, u_history_r2, u_history_r3, u_history_r4, u_history_r5)
)
)

abbrev rm_X4_setNumber : Room := { frames := 3, cells := 0, slots := 0, locals := 102 }
set_option maxHeartbeats 4000000 in
set_option maxRecDepth 100000 in
theorem c_X4_setNumber (l : Launch) (D : va_G) (cT : Nat → ClassId) (g : Nat → Nat) (fu : Nat) (u_now : TS) (u_history : TH) (u_history_r0 : TS) (u_history_r1 : TS) (u_history_r2 : TS) (u_history_r3 : TS) (u_history_r4 : TS) (u_history_r5 : TS) (p0 : Int32) (p1 : Int32) (o : Int32 × TS × TH × TS × TS × TS × TS × TS × TS) (hf : f_X4_setNumber fu u_now u_history u_history_r0 u_history_r1 u_history_r2 u_history_r3 u_history_r4 u_history_r5 p0 p1 = some o) (sz : Nat) : Met l yX4_setNumber wsX4_setNumber rm_X4_setNumber (va_Pc [.ref (g 0), .int p0, .int p1] (PRE D cT sz (List.flatten [wT g, wS cT g 1 u_now, wH cT g 25 u_history, wS cT g 27 u_history_r0, wS cT g 35 u_history_r1, wS cT g 43 u_history_r2, wS cT g 51 u_history_r3, wS cT g 59 u_history_r4, wS cT g 67 u_history_r5]))) (QI D o.1 (List.flatten [wT g, wS cT g 1 o.2.1, wH cT g 25 o.2.2.1, wS cT g 27 o.2.2.2.1, wS cT g 35 o.2.2.2.2.1, wS cT g 43 o.2.2.2.2.2.1, wS cT g 51 o.2.2.2.2.2.2.1, wS cT g 59 o.2.2.2.2.2.2.2.1, wS cT g 67 o.2.2.2.2.2.2.2.2]) (va_A (List.flatten [wT g, wS cT g 1 u_now, wH cT g 25 u_history, wS cT g 27 u_history_r0, wS cT g 35 u_history_r1, wS cT g 43 u_history_r2, wS cT g 51 u_history_r3, wS cT g 59 u_history_r4, wS cT g 67 u_history_r5]) sz)) 0 0 (va_A (List.flatten [wT g, wS cT g 1 u_now, wH cT g 25 u_history, wS cT g 27 u_history_r0, wS cT g 35 u_history_r1, wS cT g 43 u_history_r2, wS cT g 51 u_history_r3, wS cT g 59 u_history_r4, wS cT g 67 u_history_r5]) sz) := by
  refine Met.ofW (cc := cX4_setNumber) (maxL := 4) (ret := (some .int)) (by decide) rfl ?_
  intro p e s m args below meth c s₁ B0 hml hv
  obtain ⟨hav, hsz, hP, hK, hD, hN, hZ⟩ := hv
  have hx := B0.exec
  have hb := B0.bytes
  have hr := B0.returns
  have hts := atoms_spec (ws := wsX4_setNumber) B0.pre
  have hown : s.vm.findClass RX4 = some m.cls := findClass_of_methodNamed B0.named
  have hlocks := B0.notSynchronized
  subst hsz
  have hD := hD.self (sz := s.heap.size)
  have hA : ∀ q : Nat, s.heap.size ≤ q → va_A (List.flatten [wT g, wS cT g 1 u_now, wH cT g 25 u_history, wS cT g 27 u_history_r0, wS cT g 35 u_history_r1, wS cT g 43 u_history_r2, wS cT g 51 u_history_r3, wS cT g 59 u_history_r4, wS cT g 67 u_history_r5]) s.heap.size q := fun q h => Or.inr h
  generalize va_A (List.flatten [wT g, wS cT g 1 u_now, wH cT g 25 u_history, wS cT g 27 u_history_r0, wS cT g 35 u_history_r1, wS cT g 43 u_history_r2, wS cT g 51 u_history_r3, wS cT g 59 u_history_r4, wS cT g 67 u_history_r5]) s.heap.size = A at hD hZ hA ⊢
  have hS : va_S A s.heap s.heap [] := va_S.rf
  have hl := lv_entry ([.ref (g 0), .int p0, .int p1]) (n := 4) (Nat.le_of_ble_eq_true rfl)
  rw [hav]
  rw [lg_entry_eq]
  generalize (lg_sl ([.ref (g 0), .int p0, .int p1]) ++ List.replicate (4 - (lg_sl ([.ref (g 0), .int p0, .int p1])).length) Slot.unset).toArray = ls at hl ⊢
  have hl : lv_has ls 4 [(0, .ref (g 0)), (1, .int p0), (2, .int p1)] := hl
  rw [← hav]
  generalize hQ : MQ below _ _ _ _ _ _ = Q
  show W p l e rm_X4_setNumber s m args below meth c s.heap [] 0 0 Q (F0 m 0 ls [])
  unfold f_X4_setNumber at hf
  refine lv_iload_n hx hb dX4_setNumber_0 rfl (lv_at hl 1 rfl) ?_
  refine lv_iconst (v := 0) hx hb dX4_setNumber_1 (by decide) ?_
  refine lv_bipush (v := 7) hx hb dX4_setNumber_2 (by decide) ?_
  obtain ⟨o12, ho12, hf⟩ := bd_i hf
  refine cl_i [] [0, 1, 2, 3, 4, 5, 6, 7, 8] [wT g, wS cT g 1 u_now, wH cT g 25 u_history, wS cT g 27 u_history_r0, wS cT g 35 u_history_r1, wS cT g 43 u_history_r2, wS cT g 51 u_history_r3, wS cT g 59 u_history_r4, wS cT g 67 u_history_r5] hP (va_D_adr hD rfl) hA hS (va_runS (As := [.int p0, .int ((0 : Int32)), .int ((7 : Int32))]) (rest := []) ⟨hx, hb, hml, hown, hts⟩ (c_X4_isWithin l D cT g  fu  p0 ((0 : Int32)) ((7 : Int32)) o12 ho12 _) (va_cwS 3 hts gX4_setNumber_X4_isWithin rfl rfl rfl (by decide +kernel) ⟨Nat.le_of_ble_eq_true rfl, Nat.le_of_ble_eq_true rfl⟩) ⟨PRE_blind, PRE_ok [] (by decide) hP (va_D_adr hD rfl) hA hS hK hN hZ⟩ rfl rfl hl.1 rfl (lv_room (Nat.le_of_ble_eq_true rfl)) dX4_setNumber_4 ⟨Nat.le_of_ble_eq_true rfl, Nat.le_of_ble_eq_true rfl⟩) rfl 9 rfl (by decide) (by decide) (fun H locs hP hS => ?_)
  refine lv_if_eq (tgt := 27) hx hb dX4_setNumber_7 (by decide) (fun c13 => ?_) (fun c13 => ?_)
  · replace hf := it_t hf c13
    refine lv_ldc (v := -100001) hx hb hown (hts (.constant RX4 57 (-100001)) (List.mem_of_getElem? (i := 1) rfl)) dX4_setNumber_27 ?_
    obtain rfl := Option.some.inj hf
    subst hQ
    exact en_i hx hb hr hP hS hlocks dX4_setNumber_29
  · replace hf := it_f hf c13
    refine lv_iload_n hx hb dX4_setNumber_10 rfl (lv_at hl 2 rfl) ?_
    refine lv_aload_n hx hb dX4_setNumber_11 rfl (lv_at hl 0 rfl) ?_
    refine lv_iload_n hx hb dX4_setNumber_12 rfl (lv_at hl 1 rfl) ?_
    obtain ⟨o14, ho14, hf⟩ := bd_i hf
    refine cl_i [0, 1] [2, 3, 4, 5, 6, 7, 8] [wT g, wS cT g 1 u_now, wH cT g 25 u_history, wS cT g 27 u_history_r0, wS cT g 35 u_history_r1, wS cT g 43 u_history_r2, wS cT g 51 u_history_r3, wS cT g 59 u_history_r4, wS cT g 67 u_history_r5] hP (va_D_adr hD rfl) hA hS (va_runV (As := [.int p0]) (rest := [.int p1]) ⟨hx, hb, hml, hown, hts⟩ (c_X4_leastNumber l D cT g  fu u_now p0 o14 ho14 _) (cwV 1 hts gX4_setNumber_X4_leastNumber rfl rfl rfl (by decide +kernel) ⟨Nat.le_of_ble_eq_true rfl, Nat.le_of_ble_eq_true rfl⟩) ⟨PRE_blind, va_recv hK hP (ci := 4) (q0 := 0) rfl rfl, PRE_ok [0, 1] (by decide) hP (va_D_adr hD rfl) hA hS hK hN hZ⟩ rfl rfl hl.1 rfl (lv_room (Nat.le_of_ble_eq_true rfl)) dX4_setNumber_13 ⟨Nat.le_of_ble_eq_true rfl, Nat.le_of_ble_eq_true rfl⟩) rfl 9 rfl (by decide) (by decide) (fun H locs hP hS => ?_)
    refine lv_aload_n hx hb dX4_setNumber_16 rfl (lv_at hl 0 rfl) ?_
    refine lv_iload_n hx hb dX4_setNumber_17 rfl (lv_at hl 1 rfl) ?_
    obtain ⟨o15, ho15, hf⟩ := bd_i hf
    refine cl_i [0, 1] [2, 3, 4, 5, 6, 7, 8] [wT g, wS cT g 1 u_now, wH cT g 25 u_history, wS cT g 27 u_history_r0, wS cT g 35 u_history_r1, wS cT g 43 u_history_r2, wS cT g 51 u_history_r3, wS cT g 59 u_history_r4, wS cT g 67 u_history_r5] hP (va_D_adr hD rfl) hA hS (va_runV (As := [.int p0]) (rest := [.int o14, .int p1]) ⟨hx, hb, hml, hown, hts⟩ (c_X4_greatestNumber l D cT g  fu u_now p0 o15 ho15 _) (cwV 1 hts gX4_setNumber_X4_greatestNumber rfl rfl rfl (by decide +kernel) ⟨Nat.le_of_ble_eq_true rfl, Nat.le_of_ble_eq_true rfl⟩) ⟨PRE_blind, va_recv hK hP (ci := 4) (q0 := 0) rfl rfl, PRE_ok [0, 1] (by decide) hP (va_D_adr hD rfl) hA hS hK hN hZ⟩ rfl rfl hl.1 rfl (lv_room (Nat.le_of_ble_eq_true rfl)) dX4_setNumber_18 ⟨Nat.le_of_ble_eq_true rfl, Nat.le_of_ble_eq_true rfl⟩) rfl 9 rfl (by decide) (by decide) (fun H locs hP hS => ?_)
    obtain ⟨o16, ho16, hf⟩ := bd_i hf
    refine cl_i [] [0, 1, 2, 3, 4, 5, 6, 7, 8] [wT g, wS cT g 1 u_now, wH cT g 25 u_history, wS cT g 27 u_history_r0, wS cT g 35 u_history_r1, wS cT g 43 u_history_r2, wS cT g 51 u_history_r3, wS cT g 59 u_history_r4, wS cT g 67 u_history_r5] hP (va_D_adr hD rfl) hA hS (va_runS (As := [.int p1, .int o14, .int o15]) (rest := []) ⟨hx, hb, hml, hown, hts⟩ (c_X4_isWithin l D cT g  fu  p1 o14 o15 o16 ho16 _) (va_cwS 3 hts gX4_setNumber_X4_isWithin rfl rfl rfl (by decide +kernel) ⟨Nat.le_of_ble_eq_true rfl, Nat.le_of_ble_eq_true rfl⟩) ⟨PRE_blind, PRE_ok [] (by decide) hP (va_D_adr hD rfl) hA hS hK hN hZ⟩ rfl rfl hl.1 rfl (lv_room (Nat.le_of_ble_eq_true rfl)) dX4_setNumber_21 ⟨Nat.le_of_ble_eq_true rfl, Nat.le_of_ble_eq_true rfl⟩) rfl 9 rfl (by decide) (by decide) (fun H locs hP hS => ?_)
    refine lv_if_ne (tgt := 30) hx hb dX4_setNumber_24 (by decide) (fun c17 => ?_) (fun c17 => ?_)
    · replace hf := it_t hf c17
      refine lv_aload_n hx hb dX4_setNumber_30 rfl (lv_at hl 0 rfl) ?_
      refine va_get (ci := 4) (v := .ref (g 1)) (C := RX4) (T := TX4) (N := 8) hx hb hts iw_X4_setNumber_X4 hown hK hP 0 rfl rfl 0 (by decide) (hts (.fieldLink RX4 10 "BallastTrack" "now" "LBallastTrack$State;") (List.mem_of_getElem? (i := 2) rfl)) (fun _ h9 => h9) rfl dX4_setNumber_31 ?_
      refine va_get (ci := 1) (v := .ref (g (1 + 1))) (C := RX1) (T := TX1) (N := 9) hx hb hts iw_X4_setNumber_X1 hown hK hP 1 rfl rfl 2 (by decide) (hts (.fieldLink RX4 76 "BallastTrack$State" "numbers" "[I") (List.mem_of_getElem? (i := 3) rfl)) (fun _ h9 => h9) rfl dX4_setNumber_34 ?_
      refine lv_iload_n hx hb dX4_setNumber_37 rfl (lv_at hl 1 rfl) ?_
      obtain ⟨hi18, hf⟩ := ix_i hf
      refine va_iald hx hb hK hP 2 0 rfl rfl hi18 dX4_setNumber_38 ?_
      refine lv_topi (fun x19 ex19 => ?_)
      replace hf := nm_i hf ex19
      refine lv_istore_n (lv' := [(3, .int x19), (0, .ref (g 0)), (1, .int p0), (2, .int p1)]) hx hb dX4_setNumber_39 rfl hl (by decide) rfl (fun ls hl => ?_)
      refine lv_aload_n hx hb dX4_setNumber_40 rfl (lv_at hl 1 rfl) ?_
      refine va_get (ci := 4) (v := .ref (g 25)) (C := RX4) (T := TX4) (N := 8) hx hb hts iw_X4_setNumber_X4 hown hK hP 0 rfl rfl 4 (by decide) (hts (.fieldLink RX4 34 "BallastTrack" "history" "LBallastTrack$History;") (List.mem_of_getElem? (i := 4) rfl)) (fun _ h9 => h9) rfl dX4_setNumber_41 ?_
      refine lv_aload_n hx hb dX4_setNumber_44 rfl (lv_at hl 1 rfl) ?_
      refine va_get (ci := 4) (v := .ref (g 1)) (C := RX4) (T := TX4) (N := 8) hx hb hts iw_X4_setNumber_X4 hown hK hP 0 rfl rfl 0 (by decide) (hts (.fieldLink RX4 10 "BallastTrack" "now" "LBallastTrack$State;") (List.mem_of_getElem? (i := 2) rfl)) (fun _ h9 => h9) rfl dX4_setNumber_45 ?_
      obtain ⟨o20, ho20, hf⟩ := bd_i hf
      refine cl_v [2, 3, 4, 5, 6, 7, 8, 1] [0] [wT g, wS cT g 1 u_now, wH cT g 25 o20.1, wS cT g 27 o20.2.1, wS cT g 35 o20.2.2.1, wS cT g 43 o20.2.2.2.1, wS cT g 51 o20.2.2.2.2.1, wS cT g 59 o20.2.2.2.2.2.1, wS cT g 67 o20.2.2.2.2.2.2] hP (va_D_adr hD rfl) hA hS (va_runV (As := [.ref (g 1)]) (rest := []) ⟨hx, hb, hml, hown, hts⟩ (c_X0_save l D cT g 25 1 fu u_history u_history_r0 u_history_r1 u_history_r2 u_history_r3 u_history_r4 u_history_r5 u_now  o20 ho20 _) (cwV 1 hts gX4_setNumber_X0_save rfl rfl rfl (by decide +kernel) ⟨Nat.le_of_ble_eq_true rfl, Nat.le_of_ble_eq_true rfl⟩) ⟨PRE_blind, va_recv hK hP (ci := 0) (q0 := 9) rfl rfl, PRE_ok [2, 3, 4, 5, 6, 7, 8, 1] (by decide) hP (va_D_adr hD rfl) hA hS hK hN hZ⟩ rfl rfl hl.1 rfl (lv_room (Nat.le_of_ble_eq_true rfl)) dX4_setNumber_48 ⟨Nat.le_of_ble_eq_true rfl, Nat.le_of_ble_eq_true rfl⟩) rfl 9 rfl (by decide) (by decide) (fun H locs hP hS => ?_)
      refine lv_aload_n hx hb dX4_setNumber_51 rfl (lv_at hl 1 rfl) ?_
      refine va_get (ci := 4) (v := .ref (g 1)) (C := RX4) (T := TX4) (N := 8) hx hb hts iw_X4_setNumber_X4 hown hK hP 0 rfl rfl 0 (by decide) (hts (.fieldLink RX4 10 "BallastTrack" "now" "LBallastTrack$State;") (List.mem_of_getElem? (i := 2) rfl)) (fun _ h9 => h9) rfl dX4_setNumber_52 ?_
      refine va_get (ci := 1) (v := .ref (g (1 + 1))) (C := RX1) (T := TX1) (N := 9) hx hb hts iw_X4_setNumber_X1 hown hK hP 1 rfl rfl 2 (by decide) (hts (.fieldLink RX4 76 "BallastTrack$State" "numbers" "[I") (List.mem_of_getElem? (i := 3) rfl)) (fun _ h9 => h9) rfl dX4_setNumber_55 ?_
      refine lv_iload_n hx hb dX4_setNumber_58 rfl (lv_at hl 2 rfl) ?_
      refine lv_iload_n hx hb dX4_setNumber_59 rfl (lv_at hl 3 rfl) ?_
      obtain ⟨hi21, hf⟩ := ix_i hf
      refine va_iast hx hb hK hP (va_D_adr hD rfl) hS 2 0 rfl rfl hi21 dX4_setNumber_60 (fun H locs hP _ hS => ?_)
      obtain ⟨u22, eu22⟩ : ∃ z : TS, z = S_nu_ u_now (upd (S_nu u_now) p0.toNatClampNeg p1) := ⟨_, rfl⟩
      replace hf := nm_i hf eu22
      have hP : va_P D vwCl (List.flatten [wT g, wS cT g 1 u22, wH cT g 25 o20.1, wS cT g 27 o20.2.1, wS cT g 35 o20.2.2.1, wS cT g 43 o20.2.2.2.1, wS cT g 51 o20.2.2.2.2.1, wS cT g 59 o20.2.2.2.2.2.1, wS cT g 67 o20.2.2.2.2.2.2]) H := by rw [eu22]; exact hP
      refine lv_iload_n hx hb dX4_setNumber_61 rfl (lv_at hl 0 rfl) ?_
      obtain rfl := Option.some.inj hf
      subst hQ
      exact en_i hx hb hr hP hS hlocks dX4_setNumber_62
    · replace hf := it_f hf (not_not_intro c17)
      refine lv_ldc (v := -100001) hx hb hown (hts (.constant RX4 57 (-100001)) (List.mem_of_getElem? (i := 1) rfl)) dX4_setNumber_27 ?_
      obtain rfl := Option.some.inj hf
      subst hQ
      exact en_i hx hb hr hP hS hlocks dX4_setNumber_29
def f_X4_isLevel (fu : Nat)  (p0 : Int32) : Option (Bool) :=
bd (f_X4_isWithin fu  p0 ((-9999 : Int32)) ((9999 : Int32))) fun (o2 : Bool) =>
some (o2)

abbrev rm_X4_isLevel : Room := { frames := 1, cells := 0, slots := 0, locals := 22 }
set_option maxHeartbeats 4000000 in
set_option maxRecDepth 100000 in
theorem c_X4_isLevel (l : Launch) (D : va_G) (cT : Nat → ClassId) (g : Nat → Nat) (fu : Nat)  (p0 : Int32) (o : Bool) (hf : f_X4_isLevel fu  p0 = some o) (sz : Nat) : Met l yX4_isLevel wsX4_isLevel rm_X4_isLevel (va_Pc [.int p0] (PRE D cT sz (List.flatten []))) (QI D (bI o) (List.flatten []) (va_A (List.flatten []) sz)) 0 0 (va_A (List.flatten []) sz) := by
  refine Met.ofW (cc := cX4_isLevel) (maxL := 1) (ret := (some .boolean)) (by decide) rfl ?_
  intro p e s m args below meth c s₁ B0 hml hv
  obtain ⟨hav, hsz, hP, hK, hD, hN, hZ⟩ := hv
  have hx := B0.exec
  have hb := B0.bytes
  have hr := B0.returns
  have hts := atoms_spec (ws := wsX4_isLevel) B0.pre
  have hown : s.vm.findClass RX4 = some m.cls := findClass_of_methodNamed B0.named
  have hlocks := B0.notSynchronized
  subst hsz
  have hD := hD.self (sz := s.heap.size)
  have hA : ∀ q : Nat, s.heap.size ≤ q → va_A (List.flatten []) s.heap.size q := fun q h => Or.inr h
  generalize va_A (List.flatten []) s.heap.size = A at hD hZ hA ⊢
  have hS : va_S A s.heap s.heap [] := va_S.rf
  have hl := lv_entry ([.int p0]) (n := 1) (Nat.le_of_ble_eq_true rfl)
  rw [hav]
  rw [lg_entry_eq]
  generalize (lg_sl ([.int p0]) ++ List.replicate (1 - (lg_sl ([.int p0])).length) Slot.unset).toArray = ls at hl ⊢
  have hl : lv_has ls 1 [(0, .int p0)] := hl
  rw [← hav]
  generalize hQ : MQ below _ _ _ _ _ _ = Q
  show W p l e rm_X4_isLevel s m args below meth c s.heap [] 0 0 Q (F0 m 0 ls [])
  unfold f_X4_isLevel at hf
  refine lv_iload_n hx hb dX4_isLevel_0 rfl (lv_at hl 0 rfl) ?_
  refine lv_sipush (v := -9999) hx hb dX4_isLevel_1 (by decide) ?_
  refine lv_sipush (v := 9999) hx hb dX4_isLevel_4 (by decide) ?_
  obtain ⟨o2, ho2, hf⟩ := bd_i hf
  refine cl_i [] [] [] hP (va_D_adr hD rfl) hA hS (va_runS (As := [.int p0, .int ((-9999 : Int32)), .int ((9999 : Int32))]) (rest := []) ⟨hx, hb, hml, hown, hts⟩ (c_X4_isWithin l D cT g  fu  p0 ((-9999 : Int32)) ((9999 : Int32)) o2 ho2 _) (va_cwS 3 hts gX4_isLevel_X4_isWithin rfl rfl rfl (by decide +kernel) ⟨Nat.le_of_ble_eq_true rfl, Nat.le_of_ble_eq_true rfl⟩) ⟨PRE_blind, PRE_ok [] (by decide) hP (va_D_adr hD rfl) hA hS hK hN hZ⟩ rfl rfl hl.1 rfl (lv_room (Nat.le_of_ble_eq_true rfl)) dX4_isLevel_7 ⟨Nat.le_of_ble_eq_true rfl, Nat.le_of_ble_eq_true rfl⟩) rfl 0 rfl (by decide) (by decide) (fun H locs hP hS => ?_)
  obtain rfl := Option.some.inj hf
  subst hQ
  exact en_z hx hb hr hP hS hlocks dX4_isLevel_10
theorem iw_X4_setLevel_X1 : ∀ w ∈ u_ws RX1 TX1 9, w ∈ wsX4_setLevel := by decide +kernel
theorem iw_X4_setLevel_X4 : ∀ w ∈ u_ws RX4 TX4 8, w ∈ wsX4_setLevel := by decide +kernel
def f_X4_setLevel (fu : Nat) (u_now : TS) (u_history : TH) (u_history_r0 : TS) (u_history_r1 : TS) (u_history_r2 : TS) (u_history_r3 : TS) (u_history_r4 : TS) (u_history_r5 : TS) (p0 : Int32) (p1 : Int32) : Option (Int32 × TS × TH × TS × TS × TS × TS × TS × TS) :=
bd (f_X1_has fu u_now p0) fun (o9 : Bool) =>
if bI o9 = 0 then (
some ((-100001 : Int32), u_now, u_history, u_history_r0, u_history_r1, u_history_r2, u_history_r3, u_history_r4, u_history_r5)
)
else (
bd (f_X4_isLevel fu  p1) fun (o11 : Bool) =>
if ¬ bI o11 = 0 then (
ix p0 60 <|
nm ((S_lv u_now) p0.toNatClampNeg) fun (x14 : Int32) =>
bd (f_X0_save fu u_history u_history_r0 u_history_r1 u_history_r2 u_history_r3 u_history_r4 u_history_r5 u_now ) fun (o15 : TH × TS × TS × TS × TS × TS × TS) =>
bd (f_X1_putLevel fu u_now p0 p1) fun (o16 : TS) =>
some (x14, o16, o15.1, o15.2.1, o15.2.2.1, o15.2.2.2.1, o15.2.2.2.2.1, o15.2.2.2.2.2.1, o15.2.2.2.2.2.2)
)
else (
some ((-100001 : Int32), u_now, u_history, u_history_r0, u_history_r1, u_history_r2, u_history_r3, u_history_r4, u_history_r5)
)
)

abbrev rm_X4_setLevel : Room := { frames := 3, cells := 0, slots := 0, locals := 102 }
set_option maxHeartbeats 4000000 in
set_option maxRecDepth 100000 in
theorem c_X4_setLevel (l : Launch) (D : va_G) (cT : Nat → ClassId) (g : Nat → Nat) (fu : Nat) (u_now : TS) (u_history : TH) (u_history_r0 : TS) (u_history_r1 : TS) (u_history_r2 : TS) (u_history_r3 : TS) (u_history_r4 : TS) (u_history_r5 : TS) (p0 : Int32) (p1 : Int32) (o : Int32 × TS × TH × TS × TS × TS × TS × TS × TS) (hf : f_X4_setLevel fu u_now u_history u_history_r0 u_history_r1 u_history_r2 u_history_r3 u_history_r4 u_history_r5 p0 p1 = some o) (sz : Nat) : Met l yX4_setLevel wsX4_setLevel rm_X4_setLevel (va_Pc [.ref (g 0), .int p0, .int p1] (PRE D cT sz (List.flatten [wT g, wS cT g 1 u_now, wH cT g 25 u_history, wS cT g 27 u_history_r0, wS cT g 35 u_history_r1, wS cT g 43 u_history_r2, wS cT g 51 u_history_r3, wS cT g 59 u_history_r4, wS cT g 67 u_history_r5]))) (QI D o.1 (List.flatten [wT g, wS cT g 1 o.2.1, wH cT g 25 o.2.2.1, wS cT g 27 o.2.2.2.1, wS cT g 35 o.2.2.2.2.1, wS cT g 43 o.2.2.2.2.2.1, wS cT g 51 o.2.2.2.2.2.2.1, wS cT g 59 o.2.2.2.2.2.2.2.1, wS cT g 67 o.2.2.2.2.2.2.2.2]) (va_A (List.flatten [wT g, wS cT g 1 u_now, wH cT g 25 u_history, wS cT g 27 u_history_r0, wS cT g 35 u_history_r1, wS cT g 43 u_history_r2, wS cT g 51 u_history_r3, wS cT g 59 u_history_r4, wS cT g 67 u_history_r5]) sz)) 0 0 (va_A (List.flatten [wT g, wS cT g 1 u_now, wH cT g 25 u_history, wS cT g 27 u_history_r0, wS cT g 35 u_history_r1, wS cT g 43 u_history_r2, wS cT g 51 u_history_r3, wS cT g 59 u_history_r4, wS cT g 67 u_history_r5]) sz) := by
  refine Met.ofW (cc := cX4_setLevel) (maxL := 4) (ret := (some .int)) (by decide) rfl ?_
  intro p e s m args below meth c s₁ B0 hml hv
  obtain ⟨hav, hsz, hP, hK, hD, hN, hZ⟩ := hv
  have hx := B0.exec
  have hb := B0.bytes
  have hr := B0.returns
  have hts := atoms_spec (ws := wsX4_setLevel) B0.pre
  have hown : s.vm.findClass RX4 = some m.cls := findClass_of_methodNamed B0.named
  have hlocks := B0.notSynchronized
  subst hsz
  have hD := hD.self (sz := s.heap.size)
  have hA : ∀ q : Nat, s.heap.size ≤ q → va_A (List.flatten [wT g, wS cT g 1 u_now, wH cT g 25 u_history, wS cT g 27 u_history_r0, wS cT g 35 u_history_r1, wS cT g 43 u_history_r2, wS cT g 51 u_history_r3, wS cT g 59 u_history_r4, wS cT g 67 u_history_r5]) s.heap.size q := fun q h => Or.inr h
  generalize va_A (List.flatten [wT g, wS cT g 1 u_now, wH cT g 25 u_history, wS cT g 27 u_history_r0, wS cT g 35 u_history_r1, wS cT g 43 u_history_r2, wS cT g 51 u_history_r3, wS cT g 59 u_history_r4, wS cT g 67 u_history_r5]) s.heap.size = A at hD hZ hA ⊢
  have hS : va_S A s.heap s.heap [] := va_S.rf
  have hl := lv_entry ([.ref (g 0), .int p0, .int p1]) (n := 4) (Nat.le_of_ble_eq_true rfl)
  rw [hav]
  rw [lg_entry_eq]
  generalize (lg_sl ([.ref (g 0), .int p0, .int p1]) ++ List.replicate (4 - (lg_sl ([.ref (g 0), .int p0, .int p1])).length) Slot.unset).toArray = ls at hl ⊢
  have hl : lv_has ls 4 [(0, .ref (g 0)), (1, .int p0), (2, .int p1)] := hl
  rw [← hav]
  generalize hQ : MQ below _ _ _ _ _ _ = Q
  show W p l e rm_X4_setLevel s m args below meth c s.heap [] 0 0 Q (F0 m 0 ls [])
  unfold f_X4_setLevel at hf
  refine lv_aload_n hx hb dX4_setLevel_0 rfl (lv_at hl 0 rfl) ?_
  refine va_get (ci := 4) (v := .ref (g 1)) (C := RX4) (T := TX4) (N := 8) hx hb hts iw_X4_setLevel_X4 hown hK hP 0 rfl rfl 0 (by decide) (hts (.fieldLink RX4 10 "BallastTrack" "now" "LBallastTrack$State;") (List.mem_of_getElem? (i := 1) rfl)) (fun _ h9 => h9) rfl dX4_setLevel_1 ?_
  refine lv_iload_n hx hb dX4_setLevel_4 rfl (lv_at hl 1 rfl) ?_
  obtain ⟨o9, ho9, hf⟩ := bd_i hf
  refine cl_i [1] [0, 2, 3, 4, 5, 6, 7, 8] [wT g, wS cT g 1 u_now, wH cT g 25 u_history, wS cT g 27 u_history_r0, wS cT g 35 u_history_r1, wS cT g 43 u_history_r2, wS cT g 51 u_history_r3, wS cT g 59 u_history_r4, wS cT g 67 u_history_r5] hP (va_D_adr hD rfl) hA hS (va_runV (As := [.int p0]) (rest := []) ⟨hx, hb, hml, hown, hts⟩ (c_X1_has l D cT g 1 fu u_now p0 o9 ho9 _) (cwV 1 hts gX4_setLevel_X1_has rfl rfl rfl (by decide +kernel) ⟨Nat.le_of_ble_eq_true rfl, Nat.le_of_ble_eq_true rfl⟩) ⟨PRE_blind, va_recv hK hP (ci := 1) (q0 := 1) rfl rfl, PRE_ok [1] (by decide) hP (va_D_adr hD rfl) hA hS hK hN hZ⟩ rfl rfl hl.1 rfl (lv_room (Nat.le_of_ble_eq_true rfl)) dX4_setLevel_5 ⟨Nat.le_of_ble_eq_true rfl, Nat.le_of_ble_eq_true rfl⟩) rfl 9 rfl (by decide) (by decide) (fun H locs hP hS => ?_)
  refine lv_if_eq (tgt := 18) hx hb dX4_setLevel_8 (by decide) (fun c10 => ?_) (fun c10 => ?_)
  · replace hf := it_t hf c10
    refine lv_ldc (v := -100001) hx hb hown (hts (.constant RX4 57 (-100001)) (List.mem_of_getElem? (i := 2) rfl)) dX4_setLevel_18 ?_
    obtain rfl := Option.some.inj hf
    subst hQ
    exact en_i hx hb hr hP hS hlocks dX4_setLevel_20
  · replace hf := it_f hf c10
    refine lv_iload_n hx hb dX4_setLevel_11 rfl (lv_at hl 2 rfl) ?_
    obtain ⟨o11, ho11, hf⟩ := bd_i hf
    refine cl_i [] [0, 1, 2, 3, 4, 5, 6, 7, 8] [wT g, wS cT g 1 u_now, wH cT g 25 u_history, wS cT g 27 u_history_r0, wS cT g 35 u_history_r1, wS cT g 43 u_history_r2, wS cT g 51 u_history_r3, wS cT g 59 u_history_r4, wS cT g 67 u_history_r5] hP (va_D_adr hD rfl) hA hS (va_runS (As := [.int p1]) (rest := []) ⟨hx, hb, hml, hown, hts⟩ (c_X4_isLevel l D cT g  fu  p1 o11 ho11 _) (va_cwS 1 hts gX4_setLevel_X4_isLevel rfl rfl rfl (by decide +kernel) ⟨Nat.le_of_ble_eq_true rfl, Nat.le_of_ble_eq_true rfl⟩) ⟨PRE_blind, PRE_ok [] (by decide) hP (va_D_adr hD rfl) hA hS hK hN hZ⟩ rfl rfl hl.1 rfl (lv_room (Nat.le_of_ble_eq_true rfl)) dX4_setLevel_12 ⟨Nat.le_of_ble_eq_true rfl, Nat.le_of_ble_eq_true rfl⟩) rfl 9 rfl (by decide) (by decide) (fun H locs hP hS => ?_)
    refine lv_if_ne (tgt := 21) hx hb dX4_setLevel_15 (by decide) (fun c12 => ?_) (fun c12 => ?_)
    · replace hf := it_t hf c12
      refine lv_aload_n hx hb dX4_setLevel_21 rfl (lv_at hl 0 rfl) ?_
      refine va_get (ci := 4) (v := .ref (g 1)) (C := RX4) (T := TX4) (N := 8) hx hb hts iw_X4_setLevel_X4 hown hK hP 0 rfl rfl 0 (by decide) (hts (.fieldLink RX4 10 "BallastTrack" "now" "LBallastTrack$State;") (List.mem_of_getElem? (i := 1) rfl)) (fun _ h9 => h9) rfl dX4_setLevel_22 ?_
      refine va_get (ci := 1) (v := .ref (g (1 + 2))) (C := RX1) (T := TX1) (N := 9) hx hb hts iw_X4_setLevel_X1 hown hK hP 1 rfl rfl 3 (by decide) (hts (.fieldLink RX4 87 "BallastTrack$State" "levels" "[I") (List.mem_of_getElem? (i := 3) rfl)) (fun _ h9 => h9) rfl dX4_setLevel_25 ?_
      refine lv_iload_n hx hb dX4_setLevel_28 rfl (lv_at hl 1 rfl) ?_
      obtain ⟨hi13, hf⟩ := ix_i hf
      refine va_iald hx hb hK hP 3 0 rfl rfl hi13 dX4_setLevel_29 ?_
      refine lv_topi (fun x14 ex14 => ?_)
      replace hf := nm_i hf ex14
      refine lv_istore_n (lv' := [(3, .int x14), (0, .ref (g 0)), (1, .int p0), (2, .int p1)]) hx hb dX4_setLevel_30 rfl hl (by decide) rfl (fun ls hl => ?_)
      refine lv_aload_n hx hb dX4_setLevel_31 rfl (lv_at hl 1 rfl) ?_
      refine va_get (ci := 4) (v := .ref (g 25)) (C := RX4) (T := TX4) (N := 8) hx hb hts iw_X4_setLevel_X4 hown hK hP 0 rfl rfl 4 (by decide) (hts (.fieldLink RX4 34 "BallastTrack" "history" "LBallastTrack$History;") (List.mem_of_getElem? (i := 4) rfl)) (fun _ h9 => h9) rfl dX4_setLevel_32 ?_
      refine lv_aload_n hx hb dX4_setLevel_35 rfl (lv_at hl 1 rfl) ?_
      refine va_get (ci := 4) (v := .ref (g 1)) (C := RX4) (T := TX4) (N := 8) hx hb hts iw_X4_setLevel_X4 hown hK hP 0 rfl rfl 0 (by decide) (hts (.fieldLink RX4 10 "BallastTrack" "now" "LBallastTrack$State;") (List.mem_of_getElem? (i := 1) rfl)) (fun _ h9 => h9) rfl dX4_setLevel_36 ?_
      obtain ⟨o15, ho15, hf⟩ := bd_i hf
      refine cl_v [2, 3, 4, 5, 6, 7, 8, 1] [0] [wT g, wS cT g 1 u_now, wH cT g 25 o15.1, wS cT g 27 o15.2.1, wS cT g 35 o15.2.2.1, wS cT g 43 o15.2.2.2.1, wS cT g 51 o15.2.2.2.2.1, wS cT g 59 o15.2.2.2.2.2.1, wS cT g 67 o15.2.2.2.2.2.2] hP (va_D_adr hD rfl) hA hS (va_runV (As := [.ref (g 1)]) (rest := []) ⟨hx, hb, hml, hown, hts⟩ (c_X0_save l D cT g 25 1 fu u_history u_history_r0 u_history_r1 u_history_r2 u_history_r3 u_history_r4 u_history_r5 u_now  o15 ho15 _) (cwV 1 hts gX4_setLevel_X0_save rfl rfl rfl (by decide +kernel) ⟨Nat.le_of_ble_eq_true rfl, Nat.le_of_ble_eq_true rfl⟩) ⟨PRE_blind, va_recv hK hP (ci := 0) (q0 := 9) rfl rfl, PRE_ok [2, 3, 4, 5, 6, 7, 8, 1] (by decide) hP (va_D_adr hD rfl) hA hS hK hN hZ⟩ rfl rfl hl.1 rfl (lv_room (Nat.le_of_ble_eq_true rfl)) dX4_setLevel_39 ⟨Nat.le_of_ble_eq_true rfl, Nat.le_of_ble_eq_true rfl⟩) rfl 9 rfl (by decide) (by decide) (fun H locs hP hS => ?_)
      refine lv_aload_n hx hb dX4_setLevel_42 rfl (lv_at hl 1 rfl) ?_
      refine va_get (ci := 4) (v := .ref (g 1)) (C := RX4) (T := TX4) (N := 8) hx hb hts iw_X4_setLevel_X4 hown hK hP 0 rfl rfl 0 (by decide) (hts (.fieldLink RX4 10 "BallastTrack" "now" "LBallastTrack$State;") (List.mem_of_getElem? (i := 1) rfl)) (fun _ h9 => h9) rfl dX4_setLevel_43 ?_
      refine lv_iload_n hx hb dX4_setLevel_46 rfl (lv_at hl 2 rfl) ?_
      refine lv_iload_n hx hb dX4_setLevel_47 rfl (lv_at hl 3 rfl) ?_
      obtain ⟨o16, ho16, hf⟩ := bd_i hf
      refine cl_v [1] [0, 2, 3, 4, 5, 6, 7, 8] [wT g, wS cT g 1 o16, wH cT g 25 o15.1, wS cT g 27 o15.2.1, wS cT g 35 o15.2.2.1, wS cT g 43 o15.2.2.2.1, wS cT g 51 o15.2.2.2.2.1, wS cT g 59 o15.2.2.2.2.2.1, wS cT g 67 o15.2.2.2.2.2.2] hP (va_D_adr hD rfl) hA hS (va_runV (As := [.int p0, .int p1]) (rest := []) ⟨hx, hb, hml, hown, hts⟩ (c_X1_putLevel l D cT g 1 fu u_now p0 p1 o16 ho16 _) (cwV 2 hts gX4_setLevel_X1_putLevel rfl rfl rfl (by decide +kernel) ⟨Nat.le_of_ble_eq_true rfl, Nat.le_of_ble_eq_true rfl⟩) ⟨PRE_blind, va_recv hK hP (ci := 1) (q0 := 1) rfl rfl, PRE_ok [1] (by decide) hP (va_D_adr hD rfl) hA hS hK hN hZ⟩ rfl rfl hl.1 rfl (lv_room (Nat.le_of_ble_eq_true rfl)) dX4_setLevel_48 ⟨Nat.le_of_ble_eq_true rfl, Nat.le_of_ble_eq_true rfl⟩) rfl 9 rfl (by decide) (by decide) (fun H locs hP hS => ?_)
      refine lv_iload_n hx hb dX4_setLevel_51 rfl (lv_at hl 0 rfl) ?_
      obtain rfl := Option.some.inj hf
      subst hQ
      exact en_i hx hb hr hP hS hlocks dX4_setLevel_52
    · replace hf := it_f hf (not_not_intro c12)
      refine lv_ldc (v := -100001) hx hb hown (hts (.constant RX4 57 (-100001)) (List.mem_of_getElem? (i := 2) rfl)) dX4_setLevel_18 ?_
      obtain rfl := Option.some.inj hf
      subst hQ
      exact en_i hx hb hr hP hS hlocks dX4_setLevel_20
theorem iw_X4_isStretch_X4 : ∀ w ∈ u_ws RX4 TX4 8, w ∈ wsX4_isStretch := by decide +kernel
def f_X4_isStretch (fu : Nat) (u_now : TS) (p0 : Int32) (p1 : Int32) : Option (Bool) :=
bd (f_X1_has fu u_now p0) fun (o10 : Bool) =>
jn (some (false)
) fun K31_15 =>
if bI o10 = 0 then (
K31_15 
)
else (
bd (f_X1_has fu u_now p1) fun (o17 : Bool) =>
if bI o17 = 0 then (
K31_15 
)
else (
if p1 < p0 then (
K31_15 
)
else (
some (true)
)
)
)

abbrev rm_X4_isStretch : Room := { frames := 2, cells := 0, slots := 0, locals := 43 }
set_option maxHeartbeats 4000000 in
set_option maxRecDepth 100000 in
theorem c_X4_isStretch (l : Launch) (D : va_G) (cT : Nat → ClassId) (g : Nat → Nat) (fu : Nat) (u_now : TS) (p0 : Int32) (p1 : Int32) (o : Bool) (hf : f_X4_isStretch fu u_now p0 p1 = some o) (sz : Nat) : Met l yX4_isStretch wsX4_isStretch rm_X4_isStretch (va_Pc [.ref (g 0), .int p0, .int p1] (PRE D cT sz (List.flatten [wT g, wS cT g 1 u_now]))) (QI D (bI o) (List.flatten [wT g, wS cT g 1 u_now]) (va_A (List.flatten [wT g, wS cT g 1 u_now]) sz)) 0 0 (va_A (List.flatten [wT g, wS cT g 1 u_now]) sz) := by
  refine Met.ofW (cc := cX4_isStretch) (maxL := 3) (ret := (some .boolean)) (by decide) rfl ?_
  intro p e s m args below meth c s₁ B0 hml hv
  obtain ⟨hav, hsz, hP, hK, hD, hN, hZ⟩ := hv
  have hx := B0.exec
  have hb := B0.bytes
  have hr := B0.returns
  have hts := atoms_spec (ws := wsX4_isStretch) B0.pre
  have hown : s.vm.findClass RX4 = some m.cls := findClass_of_methodNamed B0.named
  have hlocks := B0.notSynchronized
  subst hsz
  have hD := hD.self (sz := s.heap.size)
  have hA : ∀ q : Nat, s.heap.size ≤ q → va_A (List.flatten [wT g, wS cT g 1 u_now]) s.heap.size q := fun q h => Or.inr h
  generalize va_A (List.flatten [wT g, wS cT g 1 u_now]) s.heap.size = A at hD hZ hA ⊢
  have hS : va_S A s.heap s.heap [] := va_S.rf
  have hl := lv_entry ([.ref (g 0), .int p0, .int p1]) (n := 3) (Nat.le_of_ble_eq_true rfl)
  rw [hav]
  rw [lg_entry_eq]
  generalize (lg_sl ([.ref (g 0), .int p0, .int p1]) ++ List.replicate (3 - (lg_sl ([.ref (g 0), .int p0, .int p1])).length) Slot.unset).toArray = ls at hl ⊢
  have hl : lv_has ls 3 [(0, .ref (g 0)), (1, .int p0), (2, .int p1)] := hl
  rw [← hav]
  generalize hQ : MQ below _ _ _ _ _ _ = Q
  show W p l e rm_X4_isStretch s m args below meth c s.heap [] 0 0 Q (F0 m 0 ls [])
  unfold f_X4_isStretch at hf
  refine lv_aload_n hx hb dX4_isStretch_0 rfl (lv_at hl 0 rfl) ?_
  refine va_get (ci := 4) (v := .ref (g 1)) (C := RX4) (T := TX4) (N := 8) hx hb hts iw_X4_isStretch_X4 hown hK hP 0 rfl rfl 0 (by decide) (hts (.fieldLink RX4 10 "BallastTrack" "now" "LBallastTrack$State;") (List.mem_of_getElem? (i := 1) rfl)) (fun _ h9 => h9) rfl dX4_isStretch_1 ?_
  refine lv_iload_n hx hb dX4_isStretch_4 rfl (lv_at hl 1 rfl) ?_
  obtain ⟨o10, ho10, hf⟩ := bd_i hf
  refine cl_i [1] [0] [wT g, wS cT g 1 u_now] hP (va_D_adr hD rfl) hA hS (va_runV (As := [.int p0]) (rest := []) ⟨hx, hb, hml, hown, hts⟩ (c_X1_has l D cT g 1 fu u_now p0 o10 ho10 _) (cwV 1 hts gX4_isStretch_X1_has rfl rfl rfl (by decide +kernel) ⟨Nat.le_of_ble_eq_true rfl, Nat.le_of_ble_eq_true rfl⟩) ⟨PRE_blind, va_recv hK hP (ci := 1) (q0 := 1) rfl rfl, PRE_ok [1] (by decide) hP (va_D_adr hD rfl) hA hS hK hN hZ⟩ rfl rfl hl.1 rfl (lv_room (Nat.le_of_ble_eq_true rfl)) dX4_isStretch_5 ⟨Nat.le_of_ble_eq_true rfl, Nat.le_of_ble_eq_true rfl⟩) rfl 2 rfl (by decide) (by decide) (fun H locs hP hS => ?_)
  obtain ⟨K31_15, eK31_15, hf⟩ := jn_i hf
  have hK31_15 : ∀  (H : Heap) (locs : List Loc) (ls : Array Slot), K31_15  = some o → va_P D vwCl (List.flatten [wT g, wS cT g 1 u_now]) H → va_S A s.heap H locs → lv_has ls 3 [] → W p l e rm_X4_isStretch s m args below meth c H locs 0 0 Q (F0 m 31 ls []) := by
    intro  H locs ls hf hP hS hl
    rw [eK31_15] at hf
    refine lv_iconst (v := 0) hx hb dX4_isStretch_31 (by decide) ?_
    obtain rfl := Option.some.inj hf
    subst hQ
    exact en_z (v := false) hx hb hr hP hS hlocks dX4_isStretch_32
  clear eK31_15
  refine lv_if_eq (tgt := 31) hx hb dX4_isStretch_8 (by decide) (fun c16 => ?_) (fun c16 => ?_)
  · replace hf := it_t hf c16
    exact hK31_15  _ _ _ hf hP hS (lv_sub hl [] rfl)
  · replace hf := it_f hf c16
    refine lv_aload_n hx hb dX4_isStretch_11 rfl (lv_at hl 0 rfl) ?_
    refine va_get (ci := 4) (v := .ref (g 1)) (C := RX4) (T := TX4) (N := 8) hx hb hts iw_X4_isStretch_X4 hown hK hP 0 rfl rfl 0 (by decide) (hts (.fieldLink RX4 10 "BallastTrack" "now" "LBallastTrack$State;") (List.mem_of_getElem? (i := 1) rfl)) (fun _ h9 => h9) rfl dX4_isStretch_12 ?_
    refine lv_iload_n hx hb dX4_isStretch_15 rfl (lv_at hl 2 rfl) ?_
    obtain ⟨o17, ho17, hf⟩ := bd_i hf
    refine cl_i [1] [0] [wT g, wS cT g 1 u_now] hP (va_D_adr hD rfl) hA hS (va_runV (As := [.int p1]) (rest := []) ⟨hx, hb, hml, hown, hts⟩ (c_X1_has l D cT g 1 fu u_now p1 o17 ho17 _) (cwV 1 hts gX4_isStretch_X1_has rfl rfl rfl (by decide +kernel) ⟨Nat.le_of_ble_eq_true rfl, Nat.le_of_ble_eq_true rfl⟩) ⟨PRE_blind, va_recv hK hP (ci := 1) (q0 := 1) rfl rfl, PRE_ok [1] (by decide) hP (va_D_adr hD rfl) hA hS hK hN hZ⟩ rfl rfl hl.1 rfl (lv_room (Nat.le_of_ble_eq_true rfl)) dX4_isStretch_16 ⟨Nat.le_of_ble_eq_true rfl, Nat.le_of_ble_eq_true rfl⟩) rfl 2 rfl (by decide) (by decide) (fun H locs hP hS => ?_)
    refine lv_if_eq (tgt := 31) hx hb dX4_isStretch_19 (by decide) (fun c18 => ?_) (fun c18 => ?_)
    · replace hf := it_t hf c18
      exact hK31_15  _ _ _ hf hP hS (lv_sub hl [] rfl)
    · replace hf := it_f hf c18
      refine lv_iload_n hx hb dX4_isStretch_22 rfl (lv_at hl 1 rfl) ?_
      refine lv_iload_n hx hb dX4_isStretch_23 rfl (lv_at hl 2 rfl) ?_
      refine lv_icmp_gt (tgt := 31) hx hb dX4_isStretch_24 (by decide) (fun c19 => ?_) (fun c19 => ?_)
      · replace hf := it_t hf c19
        exact hK31_15  _ _ _ hf hP hS (lv_sub hl [] rfl)
      · replace hf := it_f hf c19
        refine lv_iconst (v := 1) hx hb dX4_isStretch_27 (by decide) ?_
        refine lv_goto (tgt := 32) hx hb dX4_isStretch_28 (by decide) ?_
        obtain rfl := Option.some.inj hf
        subst hQ
        exact en_z (v := true) hx hb hr hP hS hlocks dX4_isStretch_32
theorem iw_X4_renew_X1 : ∀ w ∈ u_ws RX1 TX1 9, w ∈ wsX4_renew := by decide +kernel
theorem iw_X4_renew_X4 : ∀ w ∈ u_ws RX4 TX4 8, w ∈ wsX4_renew := by decide +kernel
def lb_X4_renew_28 (fu : Nat) (p1 : Int32) (rec : Int32 → Int32 → TS → Option (Int32 × TS)) (v45 : Int32) (v46 : Int32) (u47 : TS) : Option (Int32 × TS) :=
if p1 < v46 then (
some (v45, u47)
)
else (
ix v46 60 <|
nm ((S_fo u47) v46.toNatClampNeg) fun (x52 : Int32) =>
nm (v45 + x52) fun (x53 : Int32) =>
ix v46 60 <|
nm (S_fo_ u47 (upd (S_fo u47) v46.toNatClampNeg ((0 : Int32)))) fun (u55 : TS) =>
nm (v46 + (1 : Int32)) fun (x56 : Int32) =>
rec x53 x56 u55
)

def lf_X4_renew_28 (fu : Nat) (p1 : Int32) : Nat → Int32 → Int32 → TS → Option (Int32 × TS) := lq_3 (lb_X4_renew_28 fu p1)
def f_X4_renew (fu : Nat) (u_now : TS) (u_history : TH) (u_history_r0 : TS) (u_history_r1 : TS) (u_history_r2 : TS) (u_history_r3 : TS) (u_history_r4 : TS) (u_history_r5 : TS) (p0 : Int32) (p1 : Int32) : Option (Int32 × TS × TH × TS × TS × TS × TS × TS × TS) :=
bd (f_X4_isStretch fu u_now p0 p1) fun (o25 : Bool) =>
if ¬ bI o25 = 0 then (
bd (f_X0_save fu u_history u_history_r0 u_history_r1 u_history_r2 u_history_r3 u_history_r4 u_history_r5 u_now ) fun (o27 : TH × TS × TS × TS × TS × TS × TS) =>
bd (lf_X4_renew_28 fu p1 fu ((0 : Int32)) p0 u_now) fun (z49 : Int32 × TS) =>
some (z49.1, z49.2, o27.1, o27.2.1, o27.2.2.1, o27.2.2.2.1, o27.2.2.2.2.1, o27.2.2.2.2.2.1, o27.2.2.2.2.2.2)
)
else (
some ((-100001 : Int32), u_now, u_history, u_history_r0, u_history_r1, u_history_r2, u_history_r3, u_history_r4, u_history_r5)
)

abbrev rm_X4_renew : Room := { frames := 3, cells := 0, slots := 0, locals := 102 }
set_option maxHeartbeats 4000000 in
set_option maxRecDepth 100000 in
theorem c_X4_renew (l : Launch) (D : va_G) (cT : Nat → ClassId) (g : Nat → Nat) (fu : Nat) (u_now : TS) (u_history : TH) (u_history_r0 : TS) (u_history_r1 : TS) (u_history_r2 : TS) (u_history_r3 : TS) (u_history_r4 : TS) (u_history_r5 : TS) (p0 : Int32) (p1 : Int32) (o : Int32 × TS × TH × TS × TS × TS × TS × TS × TS) (hf : f_X4_renew fu u_now u_history u_history_r0 u_history_r1 u_history_r2 u_history_r3 u_history_r4 u_history_r5 p0 p1 = some o) (sz : Nat) : Met l yX4_renew wsX4_renew rm_X4_renew (va_Pc [.ref (g 0), .int p0, .int p1] (PRE D cT sz (List.flatten [wT g, wS cT g 1 u_now, wH cT g 25 u_history, wS cT g 27 u_history_r0, wS cT g 35 u_history_r1, wS cT g 43 u_history_r2, wS cT g 51 u_history_r3, wS cT g 59 u_history_r4, wS cT g 67 u_history_r5]))) (QI D o.1 (List.flatten [wT g, wS cT g 1 o.2.1, wH cT g 25 o.2.2.1, wS cT g 27 o.2.2.2.1, wS cT g 35 o.2.2.2.2.1, wS cT g 43 o.2.2.2.2.2.1, wS cT g 51 o.2.2.2.2.2.2.1, wS cT g 59 o.2.2.2.2.2.2.2.1, wS cT g 67 o.2.2.2.2.2.2.2.2]) (va_A (List.flatten [wT g, wS cT g 1 u_now, wH cT g 25 u_history, wS cT g 27 u_history_r0, wS cT g 35 u_history_r1, wS cT g 43 u_history_r2, wS cT g 51 u_history_r3, wS cT g 59 u_history_r4, wS cT g 67 u_history_r5]) sz)) 0 0 (va_A (List.flatten [wT g, wS cT g 1 u_now, wH cT g 25 u_history, wS cT g 27 u_history_r0, wS cT g 35 u_history_r1, wS cT g 43 u_history_r2, wS cT g 51 u_history_r3, wS cT g 59 u_history_r4, wS cT g 67 u_history_r5]) sz) := by
  refine Met.ofW (cc := cX4_renew) (maxL := 5) (ret := (some .int)) (by decide) rfl ?_
  intro p e s m args below meth c s₁ B0 hml hv
  obtain ⟨hav, hsz, hP, hK, hD, hN, hZ⟩ := hv
  have hx := B0.exec
  have hb := B0.bytes
  have hr := B0.returns
  have hts := atoms_spec (ws := wsX4_renew) B0.pre
  have hown : s.vm.findClass RX4 = some m.cls := findClass_of_methodNamed B0.named
  have hlocks := B0.notSynchronized
  subst hsz
  have hD := hD.self (sz := s.heap.size)
  have hA : ∀ q : Nat, s.heap.size ≤ q → va_A (List.flatten [wT g, wS cT g 1 u_now, wH cT g 25 u_history, wS cT g 27 u_history_r0, wS cT g 35 u_history_r1, wS cT g 43 u_history_r2, wS cT g 51 u_history_r3, wS cT g 59 u_history_r4, wS cT g 67 u_history_r5]) s.heap.size q := fun q h => Or.inr h
  generalize va_A (List.flatten [wT g, wS cT g 1 u_now, wH cT g 25 u_history, wS cT g 27 u_history_r0, wS cT g 35 u_history_r1, wS cT g 43 u_history_r2, wS cT g 51 u_history_r3, wS cT g 59 u_history_r4, wS cT g 67 u_history_r5]) s.heap.size = A at hD hZ hA ⊢
  have hS : va_S A s.heap s.heap [] := va_S.rf
  have hl := lv_entry ([.ref (g 0), .int p0, .int p1]) (n := 5) (Nat.le_of_ble_eq_true rfl)
  rw [hav]
  rw [lg_entry_eq]
  generalize (lg_sl ([.ref (g 0), .int p0, .int p1]) ++ List.replicate (5 - (lg_sl ([.ref (g 0), .int p0, .int p1])).length) Slot.unset).toArray = ls at hl ⊢
  have hl : lv_has ls 5 [(0, .ref (g 0)), (1, .int p0), (2, .int p1)] := hl
  rw [← hav]
  generalize hQ : MQ below _ _ _ _ _ _ = Q
  show W p l e rm_X4_renew s m args below meth c s.heap [] 0 0 Q (F0 m 0 ls [])
  unfold f_X4_renew at hf
  refine lv_aload_n hx hb dX4_renew_0 rfl (lv_at hl 0 rfl) ?_
  refine lv_iload_n hx hb dX4_renew_1 rfl (lv_at hl 1 rfl) ?_
  refine lv_iload_n hx hb dX4_renew_2 rfl (lv_at hl 2 rfl) ?_
  obtain ⟨o25, ho25, hf⟩ := bd_i hf
  refine cl_i [0, 1] [2, 3, 4, 5, 6, 7, 8] [wT g, wS cT g 1 u_now, wH cT g 25 u_history, wS cT g 27 u_history_r0, wS cT g 35 u_history_r1, wS cT g 43 u_history_r2, wS cT g 51 u_history_r3, wS cT g 59 u_history_r4, wS cT g 67 u_history_r5] hP (va_D_adr hD rfl) hA hS (va_runV (As := [.int p0, .int p1]) (rest := []) ⟨hx, hb, hml, hown, hts⟩ (c_X4_isStretch l D cT g  fu u_now p0 p1 o25 ho25 _) (cwV 2 hts gX4_renew_X4_isStretch rfl rfl rfl (by decide +kernel) ⟨Nat.le_of_ble_eq_true rfl, Nat.le_of_ble_eq_true rfl⟩) ⟨PRE_blind, va_recv hK hP (ci := 4) (q0 := 0) rfl rfl, PRE_ok [0, 1] (by decide) hP (va_D_adr hD rfl) hA hS hK hN hZ⟩ rfl rfl hl.1 rfl (lv_room (Nat.le_of_ble_eq_true rfl)) dX4_renew_3 ⟨Nat.le_of_ble_eq_true rfl, Nat.le_of_ble_eq_true rfl⟩) rfl 9 rfl (by decide) (by decide) (fun H locs hP hS => ?_)
  refine lv_if_ne (tgt := 12) hx hb dX4_renew_6 (by decide) (fun c26 => ?_) (fun c26 => ?_)
  · replace hf := it_t hf c26
    refine lv_aload_n hx hb dX4_renew_12 rfl (lv_at hl 0 rfl) ?_
    refine va_get (ci := 4) (v := .ref (g 25)) (C := RX4) (T := TX4) (N := 8) hx hb hts iw_X4_renew_X4 hown hK hP 0 rfl rfl 4 (by decide) (hts (.fieldLink RX4 34 "BallastTrack" "history" "LBallastTrack$History;") (List.mem_of_getElem? (i := 2) rfl)) (fun _ h9 => h9) rfl dX4_renew_13 ?_
    refine lv_aload_n hx hb dX4_renew_16 rfl (lv_at hl 0 rfl) ?_
    refine va_get (ci := 4) (v := .ref (g 1)) (C := RX4) (T := TX4) (N := 8) hx hb hts iw_X4_renew_X4 hown hK hP 0 rfl rfl 0 (by decide) (hts (.fieldLink RX4 10 "BallastTrack" "now" "LBallastTrack$State;") (List.mem_of_getElem? (i := 3) rfl)) (fun _ h9 => h9) rfl dX4_renew_17 ?_
    obtain ⟨o27, ho27, hf⟩ := bd_i hf
    refine cl_v [2, 3, 4, 5, 6, 7, 8, 1] [0] [wT g, wS cT g 1 u_now, wH cT g 25 o27.1, wS cT g 27 o27.2.1, wS cT g 35 o27.2.2.1, wS cT g 43 o27.2.2.2.1, wS cT g 51 o27.2.2.2.2.1, wS cT g 59 o27.2.2.2.2.2.1, wS cT g 67 o27.2.2.2.2.2.2] hP (va_D_adr hD rfl) hA hS (va_runV (As := [.ref (g 1)]) (rest := []) ⟨hx, hb, hml, hown, hts⟩ (c_X0_save l D cT g 25 1 fu u_history u_history_r0 u_history_r1 u_history_r2 u_history_r3 u_history_r4 u_history_r5 u_now  o27 ho27 _) (cwV 1 hts gX4_renew_X0_save rfl rfl rfl (by decide +kernel) ⟨Nat.le_of_ble_eq_true rfl, Nat.le_of_ble_eq_true rfl⟩) ⟨PRE_blind, va_recv hK hP (ci := 0) (q0 := 9) rfl rfl, PRE_ok [2, 3, 4, 5, 6, 7, 8, 1] (by decide) hP (va_D_adr hD rfl) hA hS hK hN hZ⟩ rfl rfl hl.1 rfl (lv_room (Nat.le_of_ble_eq_true rfl)) dX4_renew_20 ⟨Nat.le_of_ble_eq_true rfl, Nat.le_of_ble_eq_true rfl⟩) rfl 9 rfl (by decide) (by decide) (fun H locs hP hS => ?_)
    refine lv_iconst (v := 0) hx hb dX4_renew_23 (by decide) ?_
    refine lv_istore_n (lv' := [(3, .int ((0 : Int32))), (0, .ref (g 0)), (1, .int p0), (2, .int p1)]) hx hb dX4_renew_24 rfl hl (by decide) rfl (fun ls hl => ?_)
    refine lv_iload_n hx hb dX4_renew_25 rfl (lv_at hl 2 rfl) ?_
    refine lv_istore (lv' := [(4, .int p0), (3, .int ((0 : Int32))), (0, .ref (g 0)), (1, .int p0), (2, .int p1)]) hx hb dX4_renew_26 hl (by decide) rfl (fun ls hl => ?_)
    obtain ⟨z49, hz49, hf⟩ := bd_i hf
    have hL28 : ∀ (n : Nat) (v45 : Int32) (v46 : Int32) (u47 : TS) (z48 : Int32 × TS), lf_X4_renew_28 fu p1 n v45 v46 u47 = some z48 → ∀ (H : Heap) (locs : List Loc) (ls : Array Slot), va_P D vwCl (List.flatten [wT g, wS cT g 1 u47, wH cT g 25 o27.1, wS cT g 27 o27.2.1, wS cT g 35 o27.2.2.1, wS cT g 43 o27.2.2.2.1, wS cT g 51 o27.2.2.2.2.1, wS cT g 59 o27.2.2.2.2.2.1, wS cT g 67 o27.2.2.2.2.2.2]) H → va_S A s.heap H locs → lv_has ls 5 [(0, .ref (g 0)), (2, .int p1), (3, .int v45), (4, .int v46)] → (∀ (H : Heap) (locs : List Loc) (ls : Array Slot), va_P D vwCl (List.flatten [wT g, wS cT g 1 z48.2, wH cT g 25 o27.1, wS cT g 27 o27.2.1, wS cT g 35 o27.2.2.1, wS cT g 43 o27.2.2.2.1, wS cT g 51 o27.2.2.2.2.1, wS cT g 59 o27.2.2.2.2.2.1, wS cT g 67 o27.2.2.2.2.2.2]) H → va_S A s.heap H locs → lv_has ls 5 [(3, .int z48.1)] → W p l e rm_X4_renew s m args below meth c H locs 0 0 Q (F0 m 64 ls [])) → W p l e rm_X4_renew s m args below meth c H locs 0 0 Q (F0 m 28 ls []) := by
      refine lq_3_ind (F := lb_X4_renew_28 fu p1) (fun rec ih v45 v46 u47 z48 hf H locs ls hP hS hl kx => ?_)
      unfold lb_X4_renew_28 at hf
      refine lv_iload hx hb dX4_renew_28 (lv_at hl 3 rfl) ?_
      refine lv_iload_n hx hb dX4_renew_30 rfl (lv_at hl 1 rfl) ?_
      refine lv_icmp_gt (tgt := 64) hx hb dX4_renew_31 (by decide) (fun c50 => ?_) (fun c50 => ?_)
      · replace hf := it_t hf c50
        obtain rfl := Option.some.inj hf
        exact kx _ _ _ hP hS (lv_sub hl [2] rfl)
      · replace hf := it_f hf c50
        refine lv_iload_n hx hb dX4_renew_34 rfl (lv_at hl 2 rfl) ?_
        refine lv_aload_n hx hb dX4_renew_35 rfl (lv_at hl 0 rfl) ?_
        refine va_get (ci := 4) (v := .ref (g 1)) (C := RX4) (T := TX4) (N := 8) hx hb hts iw_X4_renew_X4 hown hK hP 0 rfl rfl 0 (by decide) (hts (.fieldLink RX4 10 "BallastTrack" "now" "LBallastTrack$State;") (List.mem_of_getElem? (i := 3) rfl)) (fun _ h9 => h9) rfl dX4_renew_36 ?_
        refine va_get (ci := 1) (v := .ref (g (1 + 3))) (C := RX1) (T := TX1) (N := 9) hx hb hts iw_X4_renew_X1 hown hK hP 1 rfl rfl 4 (by decide) (hts (.fieldLink RX4 116 "BallastTrack$State" "foulings" "[I") (List.mem_of_getElem? (i := 4) rfl)) (fun _ h9 => h9) rfl dX4_renew_39 ?_
        refine lv_iload hx hb dX4_renew_42 (lv_at hl 3 rfl) ?_
        obtain ⟨hi51, hf⟩ := ix_i hf
        refine va_iald hx hb hK hP 4 0 rfl rfl hi51 dX4_renew_44 ?_
        refine lv_topi (fun x52 ex52 => ?_)
        replace hf := nm_i hf ex52
        refine lv_iadd hx hb dX4_renew_45 ?_
        refine lv_topi (fun x53 ex53 => ?_)
        replace hf := nm_i hf ex53
        refine lv_istore_n (lv' := [(3, .int x53), (0, .ref (g 0)), (2, .int p1), (4, .int v46)]) hx hb dX4_renew_46 rfl hl (by decide) rfl (fun ls hl => ?_)
        refine lv_aload_n hx hb dX4_renew_47 rfl (lv_at hl 1 rfl) ?_
        refine va_get (ci := 4) (v := .ref (g 1)) (C := RX4) (T := TX4) (N := 8) hx hb hts iw_X4_renew_X4 hown hK hP 0 rfl rfl 0 (by decide) (hts (.fieldLink RX4 10 "BallastTrack" "now" "LBallastTrack$State;") (List.mem_of_getElem? (i := 3) rfl)) (fun _ h9 => h9) rfl dX4_renew_48 ?_
        refine va_get (ci := 1) (v := .ref (g (1 + 3))) (C := RX1) (T := TX1) (N := 9) hx hb hts iw_X4_renew_X1 hown hK hP 1 rfl rfl 4 (by decide) (hts (.fieldLink RX4 116 "BallastTrack$State" "foulings" "[I") (List.mem_of_getElem? (i := 4) rfl)) (fun _ h9 => h9) rfl dX4_renew_51 ?_
        refine lv_iload hx hb dX4_renew_54 (lv_at hl 3 rfl) ?_
        refine lv_iconst (v := 0) hx hb dX4_renew_56 (by decide) ?_
        obtain ⟨hi54, hf⟩ := ix_i hf
        refine va_iast hx hb hK hP (va_D_adr hD rfl) hS 4 0 rfl rfl hi54 dX4_renew_57 (fun H locs hP _ hS => ?_)
        obtain ⟨u55, eu55⟩ : ∃ z : TS, z = S_fo_ u47 (upd (S_fo u47) v46.toNatClampNeg ((0 : Int32))) := ⟨_, rfl⟩
        replace hf := nm_i hf eu55
        have hP : va_P D vwCl (List.flatten [wT g, wS cT g 1 u55, wH cT g 25 o27.1, wS cT g 27 o27.2.1, wS cT g 35 o27.2.2.1, wS cT g 43 o27.2.2.2.1, wS cT g 51 o27.2.2.2.2.1, wS cT g 59 o27.2.2.2.2.2.1, wS cT g 67 o27.2.2.2.2.2.2]) H := by rw [eu55]; exact hP
        obtain ⟨x56, ex56⟩ : ∃ z : Int32, z = v46 + (1 : Int32) := ⟨_, rfl⟩
        replace hf := nm_i hf ex56
        refine lv_iinc (v := x56) (lv' := [(4, .int x56), (3, .int x53), (0, .ref (g 0)), (2, .int p1)]) hx hb dX4_renew_58 hl (k := 3) rfl (by rw [ex56]; rfl) (by decide) rfl (fun ls hl => ?_)
        refine lv_goto (tgt := 28) hx hb dX4_renew_61 (by decide) ?_
        exact ih _ _ _ _ hf _ _ _ hP hS (lv_sub hl [2, 3, 1, 0] rfl) kx
    refine hL28 fu _ _ _ _ hz49 _ _ _ hP hS (lv_sub hl [2, 4, 1, 0] rfl) (fun H locs ls hP hS hl => ?_)
    refine lv_iload_n hx hb dX4_renew_64 rfl (lv_at hl 0 rfl) ?_
    obtain rfl := Option.some.inj hf
    subst hQ
    exact en_i hx hb hr hP hS hlocks dX4_renew_65
  · replace hf := it_f hf (not_not_intro c26)
    refine lv_ldc (v := -100001) hx hb hown (hts (.constant RX4 57 (-100001)) (List.mem_of_getElem? (i := 1) rfl)) dX4_renew_9 ?_
    obtain rfl := Option.some.inj hf
    subst hQ
    exact en_i hx hb hr hP hS hlocks dX4_renew_11
theorem iw_X4_addJob_X1 : ∀ w ∈ u_ws RX1 TX1 9, w ∈ wsX4_addJob := by decide +kernel
theorem iw_X4_addJob_X4 : ∀ w ∈ u_ws RX4 TX4 8, w ∈ wsX4_addJob := by decide +kernel
def f_X4_addJob (fu : Nat) (u_now : TS) (u_history : TH) (u_history_r0 : TS) (u_history_r1 : TS) (u_history_r2 : TS) (u_history_r3 : TS) (u_history_r4 : TS) (u_history_r5 : TS) (p0 : Int32) (p1 : Int32) (p2 : Int32) : Option (Int32 × TS × TH × TS × TS × TS × TS × TS × TS) :=
bd (f_X4_isStretch fu u_now p0 p1) fun (o10 : Bool) =>
if bI o10 = 0 then (
some ((-100001 : Int32), u_now, u_history, u_history_r0, u_history_r1, u_history_r2, u_history_r3, u_history_r4, u_history_r5)
)
else (
bd (f_X4_isLevel fu  p2) fun (o12 : Bool) =>
if ¬ bI o12 = 0 then (
nm (S_jb u_now) fun (x14 : Int32) =>
if x14 < (6 : Int32) then (
bd (f_X0_save fu u_history u_history_r0 u_history_r1 u_history_r2 u_history_r3 u_history_r4 u_history_r5 u_now ) fun (o16 : TH × TS × TS × TS × TS × TS × TS) =>
bd (f_X1_appendJob fu u_now p0 p1 p2) fun (o17 : TS) =>
nm (S_jb o17) fun (x18 : Int32) =>
some (x18, o17, o16.1, o16.2.1, o16.2.2.1, o16.2.2.2.1, o16.2.2.2.2.1, o16.2.2.2.2.2.1, o16.2.2.2.2.2.2)
)
else (
some ((-100003 : Int32), u_now, u_history, u_history_r0, u_history_r1, u_history_r2, u_history_r3, u_history_r4, u_history_r5)
)
)
else (
some ((-100001 : Int32), u_now, u_history, u_history_r0, u_history_r1, u_history_r2, u_history_r3, u_history_r4, u_history_r5)
)
)

abbrev rm_X4_addJob : Room := { frames := 3, cells := 0, slots := 0, locals := 102 }
set_option maxHeartbeats 4000000 in
set_option maxRecDepth 100000 in
theorem c_X4_addJob (l : Launch) (D : va_G) (cT : Nat → ClassId) (g : Nat → Nat) (fu : Nat) (u_now : TS) (u_history : TH) (u_history_r0 : TS) (u_history_r1 : TS) (u_history_r2 : TS) (u_history_r3 : TS) (u_history_r4 : TS) (u_history_r5 : TS) (p0 : Int32) (p1 : Int32) (p2 : Int32) (o : Int32 × TS × TH × TS × TS × TS × TS × TS × TS) (hf : f_X4_addJob fu u_now u_history u_history_r0 u_history_r1 u_history_r2 u_history_r3 u_history_r4 u_history_r5 p0 p1 p2 = some o) (sz : Nat) : Met l yX4_addJob wsX4_addJob rm_X4_addJob (va_Pc [.ref (g 0), .int p0, .int p1, .int p2] (PRE D cT sz (List.flatten [wT g, wS cT g 1 u_now, wH cT g 25 u_history, wS cT g 27 u_history_r0, wS cT g 35 u_history_r1, wS cT g 43 u_history_r2, wS cT g 51 u_history_r3, wS cT g 59 u_history_r4, wS cT g 67 u_history_r5]))) (QI D o.1 (List.flatten [wT g, wS cT g 1 o.2.1, wH cT g 25 o.2.2.1, wS cT g 27 o.2.2.2.1, wS cT g 35 o.2.2.2.2.1, wS cT g 43 o.2.2.2.2.2.1, wS cT g 51 o.2.2.2.2.2.2.1, wS cT g 59 o.2.2.2.2.2.2.2.1, wS cT g 67 o.2.2.2.2.2.2.2.2]) (va_A (List.flatten [wT g, wS cT g 1 u_now, wH cT g 25 u_history, wS cT g 27 u_history_r0, wS cT g 35 u_history_r1, wS cT g 43 u_history_r2, wS cT g 51 u_history_r3, wS cT g 59 u_history_r4, wS cT g 67 u_history_r5]) sz)) 0 0 (va_A (List.flatten [wT g, wS cT g 1 u_now, wH cT g 25 u_history, wS cT g 27 u_history_r0, wS cT g 35 u_history_r1, wS cT g 43 u_history_r2, wS cT g 51 u_history_r3, wS cT g 59 u_history_r4, wS cT g 67 u_history_r5]) sz) := by
  refine Met.ofW (cc := cX4_addJob) (maxL := 4) (ret := (some .int)) (by decide) rfl ?_
  intro p e s m args below meth c s₁ B0 hml hv
  obtain ⟨hav, hsz, hP, hK, hD, hN, hZ⟩ := hv
  have hx := B0.exec
  have hb := B0.bytes
  have hr := B0.returns
  have hts := atoms_spec (ws := wsX4_addJob) B0.pre
  have hown : s.vm.findClass RX4 = some m.cls := findClass_of_methodNamed B0.named
  have hlocks := B0.notSynchronized
  subst hsz
  have hD := hD.self (sz := s.heap.size)
  have hA : ∀ q : Nat, s.heap.size ≤ q → va_A (List.flatten [wT g, wS cT g 1 u_now, wH cT g 25 u_history, wS cT g 27 u_history_r0, wS cT g 35 u_history_r1, wS cT g 43 u_history_r2, wS cT g 51 u_history_r3, wS cT g 59 u_history_r4, wS cT g 67 u_history_r5]) s.heap.size q := fun q h => Or.inr h
  generalize va_A (List.flatten [wT g, wS cT g 1 u_now, wH cT g 25 u_history, wS cT g 27 u_history_r0, wS cT g 35 u_history_r1, wS cT g 43 u_history_r2, wS cT g 51 u_history_r3, wS cT g 59 u_history_r4, wS cT g 67 u_history_r5]) s.heap.size = A at hD hZ hA ⊢
  have hS : va_S A s.heap s.heap [] := va_S.rf
  have hl := lv_entry ([.ref (g 0), .int p0, .int p1, .int p2]) (n := 4) (Nat.le_of_ble_eq_true rfl)
  rw [hav]
  rw [lg_entry_eq]
  generalize (lg_sl ([.ref (g 0), .int p0, .int p1, .int p2]) ++ List.replicate (4 - (lg_sl ([.ref (g 0), .int p0, .int p1, .int p2])).length) Slot.unset).toArray = ls at hl ⊢
  have hl : lv_has ls 4 [(0, .ref (g 0)), (1, .int p0), (2, .int p1), (3, .int p2)] := hl
  rw [← hav]
  generalize hQ : MQ below _ _ _ _ _ _ = Q
  show W p l e rm_X4_addJob s m args below meth c s.heap [] 0 0 Q (F0 m 0 ls [])
  unfold f_X4_addJob at hf
  refine lv_aload_n hx hb dX4_addJob_0 rfl (lv_at hl 0 rfl) ?_
  refine lv_iload_n hx hb dX4_addJob_1 rfl (lv_at hl 1 rfl) ?_
  refine lv_iload_n hx hb dX4_addJob_2 rfl (lv_at hl 2 rfl) ?_
  obtain ⟨o10, ho10, hf⟩ := bd_i hf
  refine cl_i [0, 1] [2, 3, 4, 5, 6, 7, 8] [wT g, wS cT g 1 u_now, wH cT g 25 u_history, wS cT g 27 u_history_r0, wS cT g 35 u_history_r1, wS cT g 43 u_history_r2, wS cT g 51 u_history_r3, wS cT g 59 u_history_r4, wS cT g 67 u_history_r5] hP (va_D_adr hD rfl) hA hS (va_runV (As := [.int p0, .int p1]) (rest := []) ⟨hx, hb, hml, hown, hts⟩ (c_X4_isStretch l D cT g  fu u_now p0 p1 o10 ho10 _) (cwV 2 hts gX4_addJob_X4_isStretch rfl rfl rfl (by decide +kernel) ⟨Nat.le_of_ble_eq_true rfl, Nat.le_of_ble_eq_true rfl⟩) ⟨PRE_blind, va_recv hK hP (ci := 4) (q0 := 0) rfl rfl, PRE_ok [0, 1] (by decide) hP (va_D_adr hD rfl) hA hS hK hN hZ⟩ rfl rfl hl.1 rfl (lv_room (Nat.le_of_ble_eq_true rfl)) dX4_addJob_3 ⟨Nat.le_of_ble_eq_true rfl, Nat.le_of_ble_eq_true rfl⟩) rfl 9 rfl (by decide) (by decide) (fun H locs hP hS => ?_)
  refine lv_if_eq (tgt := 16) hx hb dX4_addJob_6 (by decide) (fun c11 => ?_) (fun c11 => ?_)
  · replace hf := it_t hf c11
    refine lv_ldc (v := -100001) hx hb hown (hts (.constant RX4 57 (-100001)) (List.mem_of_getElem? (i := 1) rfl)) dX4_addJob_16 ?_
    obtain rfl := Option.some.inj hf
    subst hQ
    exact en_i hx hb hr hP hS hlocks dX4_addJob_18
  · replace hf := it_f hf c11
    refine lv_iload_n hx hb dX4_addJob_9 rfl (lv_at hl 3 rfl) ?_
    obtain ⟨o12, ho12, hf⟩ := bd_i hf
    refine cl_i [] [0, 1, 2, 3, 4, 5, 6, 7, 8] [wT g, wS cT g 1 u_now, wH cT g 25 u_history, wS cT g 27 u_history_r0, wS cT g 35 u_history_r1, wS cT g 43 u_history_r2, wS cT g 51 u_history_r3, wS cT g 59 u_history_r4, wS cT g 67 u_history_r5] hP (va_D_adr hD rfl) hA hS (va_runS (As := [.int p2]) (rest := []) ⟨hx, hb, hml, hown, hts⟩ (c_X4_isLevel l D cT g  fu  p2 o12 ho12 _) (va_cwS 1 hts gX4_addJob_X4_isLevel rfl rfl rfl (by decide +kernel) ⟨Nat.le_of_ble_eq_true rfl, Nat.le_of_ble_eq_true rfl⟩) ⟨PRE_blind, PRE_ok [] (by decide) hP (va_D_adr hD rfl) hA hS hK hN hZ⟩ rfl rfl hl.1 rfl (lv_room (Nat.le_of_ble_eq_true rfl)) dX4_addJob_10 ⟨Nat.le_of_ble_eq_true rfl, Nat.le_of_ble_eq_true rfl⟩) rfl 9 rfl (by decide) (by decide) (fun H locs hP hS => ?_)
    refine lv_if_ne (tgt := 19) hx hb dX4_addJob_13 (by decide) (fun c13 => ?_) (fun c13 => ?_)
    · replace hf := it_t hf c13
      refine lv_aload_n hx hb dX4_addJob_19 rfl (lv_at hl 0 rfl) ?_
      refine va_get (ci := 4) (v := .ref (g 1)) (C := RX4) (T := TX4) (N := 8) hx hb hts iw_X4_addJob_X4 hown hK hP 0 rfl rfl 0 (by decide) (hts (.fieldLink RX4 10 "BallastTrack" "now" "LBallastTrack$State;") (List.mem_of_getElem? (i := 2) rfl)) (fun _ h9 => h9) rfl dX4_addJob_20 ?_
      refine va_get (ci := 1) (v := .int (S_jb u_now)) (C := RX1) (T := TX1) (N := 9) hx hb hts iw_X4_addJob_X1 hown hK hP 1 rfl rfl 1 (by decide) (hts (.fieldLink RX4 119 "BallastTrack$State" "jobs" "I") (List.mem_of_getElem? (i := 3) rfl)) (fun _ h9 => h9) rfl dX4_addJob_23 ?_
      refine lv_topi (fun x14 ex14 => ?_)
      replace hf := nm_i hf ex14
      refine lv_bipush (v := 6) hx hb dX4_addJob_26 (by decide) ?_
      refine lv_icmp_lt (tgt := 34) hx hb dX4_addJob_28 (by decide) (fun c15 => ?_) (fun c15 => ?_)
      · replace hf := it_t hf c15
        refine lv_aload_n hx hb dX4_addJob_34 rfl (lv_at hl 0 rfl) ?_
        refine va_get (ci := 4) (v := .ref (g 25)) (C := RX4) (T := TX4) (N := 8) hx hb hts iw_X4_addJob_X4 hown hK hP 0 rfl rfl 4 (by decide) (hts (.fieldLink RX4 34 "BallastTrack" "history" "LBallastTrack$History;") (List.mem_of_getElem? (i := 5) rfl)) (fun _ h9 => h9) rfl dX4_addJob_35 ?_
        refine lv_aload_n hx hb dX4_addJob_38 rfl (lv_at hl 0 rfl) ?_
        refine va_get (ci := 4) (v := .ref (g 1)) (C := RX4) (T := TX4) (N := 8) hx hb hts iw_X4_addJob_X4 hown hK hP 0 rfl rfl 0 (by decide) (hts (.fieldLink RX4 10 "BallastTrack" "now" "LBallastTrack$State;") (List.mem_of_getElem? (i := 2) rfl)) (fun _ h9 => h9) rfl dX4_addJob_39 ?_
        obtain ⟨o16, ho16, hf⟩ := bd_i hf
        refine cl_v [2, 3, 4, 5, 6, 7, 8, 1] [0] [wT g, wS cT g 1 u_now, wH cT g 25 o16.1, wS cT g 27 o16.2.1, wS cT g 35 o16.2.2.1, wS cT g 43 o16.2.2.2.1, wS cT g 51 o16.2.2.2.2.1, wS cT g 59 o16.2.2.2.2.2.1, wS cT g 67 o16.2.2.2.2.2.2] hP (va_D_adr hD rfl) hA hS (va_runV (As := [.ref (g 1)]) (rest := []) ⟨hx, hb, hml, hown, hts⟩ (c_X0_save l D cT g 25 1 fu u_history u_history_r0 u_history_r1 u_history_r2 u_history_r3 u_history_r4 u_history_r5 u_now  o16 ho16 _) (cwV 1 hts gX4_addJob_X0_save rfl rfl rfl (by decide +kernel) ⟨Nat.le_of_ble_eq_true rfl, Nat.le_of_ble_eq_true rfl⟩) ⟨PRE_blind, va_recv hK hP (ci := 0) (q0 := 9) rfl rfl, PRE_ok [2, 3, 4, 5, 6, 7, 8, 1] (by decide) hP (va_D_adr hD rfl) hA hS hK hN hZ⟩ rfl rfl hl.1 rfl (lv_room (Nat.le_of_ble_eq_true rfl)) dX4_addJob_42 ⟨Nat.le_of_ble_eq_true rfl, Nat.le_of_ble_eq_true rfl⟩) rfl 9 rfl (by decide) (by decide) (fun H locs hP hS => ?_)
        refine lv_aload_n hx hb dX4_addJob_45 rfl (lv_at hl 0 rfl) ?_
        refine va_get (ci := 4) (v := .ref (g 1)) (C := RX4) (T := TX4) (N := 8) hx hb hts iw_X4_addJob_X4 hown hK hP 0 rfl rfl 0 (by decide) (hts (.fieldLink RX4 10 "BallastTrack" "now" "LBallastTrack$State;") (List.mem_of_getElem? (i := 2) rfl)) (fun _ h9 => h9) rfl dX4_addJob_46 ?_
        refine lv_iload_n hx hb dX4_addJob_49 rfl (lv_at hl 1 rfl) ?_
        refine lv_iload_n hx hb dX4_addJob_50 rfl (lv_at hl 2 rfl) ?_
        refine lv_iload_n hx hb dX4_addJob_51 rfl (lv_at hl 3 rfl) ?_
        obtain ⟨o17, ho17, hf⟩ := bd_i hf
        refine cl_v [1] [0, 2, 3, 4, 5, 6, 7, 8] [wT g, wS cT g 1 o17, wH cT g 25 o16.1, wS cT g 27 o16.2.1, wS cT g 35 o16.2.2.1, wS cT g 43 o16.2.2.2.1, wS cT g 51 o16.2.2.2.2.1, wS cT g 59 o16.2.2.2.2.2.1, wS cT g 67 o16.2.2.2.2.2.2] hP (va_D_adr hD rfl) hA hS (va_runV (As := [.int p0, .int p1, .int p2]) (rest := []) ⟨hx, hb, hml, hown, hts⟩ (c_X1_appendJob l D cT g 1 fu u_now p0 p1 p2 o17 ho17 _) (cwV 3 hts gX4_addJob_X1_appendJob rfl rfl rfl (by decide +kernel) ⟨Nat.le_of_ble_eq_true rfl, Nat.le_of_ble_eq_true rfl⟩) ⟨PRE_blind, va_recv hK hP (ci := 1) (q0 := 1) rfl rfl, PRE_ok [1] (by decide) hP (va_D_adr hD rfl) hA hS hK hN hZ⟩ rfl rfl hl.1 rfl (lv_room (Nat.le_of_ble_eq_true rfl)) dX4_addJob_52 ⟨Nat.le_of_ble_eq_true rfl, Nat.le_of_ble_eq_true rfl⟩) rfl 9 rfl (by decide) (by decide) (fun H locs hP hS => ?_)
        refine lv_aload_n hx hb dX4_addJob_55 rfl (lv_at hl 0 rfl) ?_
        refine va_get (ci := 4) (v := .ref (g 1)) (C := RX4) (T := TX4) (N := 8) hx hb hts iw_X4_addJob_X4 hown hK hP 0 rfl rfl 0 (by decide) (hts (.fieldLink RX4 10 "BallastTrack" "now" "LBallastTrack$State;") (List.mem_of_getElem? (i := 2) rfl)) (fun _ h9 => h9) rfl dX4_addJob_56 ?_
        refine va_get (ci := 1) (v := .int (S_jb o17)) (C := RX1) (T := TX1) (N := 9) hx hb hts iw_X4_addJob_X1 hown hK hP 1 rfl rfl 1 (by decide) (hts (.fieldLink RX4 119 "BallastTrack$State" "jobs" "I") (List.mem_of_getElem? (i := 3) rfl)) (fun _ h9 => h9) rfl dX4_addJob_59 ?_
        refine lv_topi (fun x18 ex18 => ?_)
        replace hf := nm_i hf ex18
        obtain rfl := Option.some.inj hf
        subst hQ
        exact en_i hx hb hr hP hS hlocks dX4_addJob_62
      · replace hf := it_f hf c15
        refine lv_ldc (v := -100003) hx hb hown (hts (.constant RX4 97 (-100003)) (List.mem_of_getElem? (i := 4) rfl)) dX4_addJob_31 ?_
        obtain rfl := Option.some.inj hf
        subst hQ
        exact en_i hx hb hr hP hS hlocks dX4_addJob_33
    · replace hf := it_f hf (not_not_intro c13)
      refine lv_ldc (v := -100001) hx hb hown (hts (.constant RX4 57 (-100001)) (List.mem_of_getElem? (i := 1) rfl)) dX4_addJob_16 ?_
      obtain rfl := Option.some.inj hf
      subst hQ
      exact en_i hx hb hr hP hS hlocks dX4_addJob_18
