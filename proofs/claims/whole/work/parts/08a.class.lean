theorem iw_X4_begin_X1 : ∀ w ∈ u_ws RX1 TX1 9, w ∈ wsX4_begin := by decide +kernel
theorem iw_X4_begin_X4 : ∀ w ∈ u_ws RX4 TX4 8, w ∈ wsX4_begin := by decide +kernel
def f_X4_begin (fu : Nat) (u_now : TS) (u_history : TH) (u_history_r0 : TS) (u_history_r1 : TS) (u_history_r2 : TS) (u_history_r3 : TS) (u_history_r4 : TS) (u_history_r5 : TS) (p0 : Int32) : Option (Int32 × TS × TH × TS × TS × TS × TS × TS × TS) :=
bd (f_X4_isWithin fu  p0 ((10 : Int32)) ((60 : Int32))) fun (o6 : Bool) =>
if ¬ bI o6 = 0 then (
nm (S_sl u_now) fun (x8 : Int32) =>
bd (f_X0_save fu u_history u_history_r0 u_history_r1 u_history_r2 u_history_r3 u_history_r4 u_history_r5 u_now ) fun (o9 : TH × TS × TS × TS × TS × TS × TS) =>
bd (f_X1_makeNew fu u_now p0) fun (o10 : TS) =>
some (x8, o10, o9.1, o9.2.1, o9.2.2.1, o9.2.2.2.1, o9.2.2.2.2.1, o9.2.2.2.2.2.1, o9.2.2.2.2.2.2)
)
else (
some ((-100001 : Int32), u_now, u_history, u_history_r0, u_history_r1, u_history_r2, u_history_r3, u_history_r4, u_history_r5)
)

abbrev rm_X4_begin : Room := { frames := 3, cells := 0, slots := 0, locals := 102 }
set_option maxHeartbeats 4000000 in
set_option maxRecDepth 100000 in
theorem c_X4_begin (l : Launch) (D : va_G) (cT : Nat → ClassId) (g : Nat → Nat) (fu : Nat) (u_now : TS) (u_history : TH) (u_history_r0 : TS) (u_history_r1 : TS) (u_history_r2 : TS) (u_history_r3 : TS) (u_history_r4 : TS) (u_history_r5 : TS) (p0 : Int32) (o : Int32 × TS × TH × TS × TS × TS × TS × TS × TS) (hf : f_X4_begin fu u_now u_history u_history_r0 u_history_r1 u_history_r2 u_history_r3 u_history_r4 u_history_r5 p0 = some o) (sz : Nat) : Met l yX4_begin wsX4_begin rm_X4_begin (va_Pc [.ref (g 0), .int p0] (PRE D cT sz (List.flatten [wT g, wS cT g 1 u_now, wH cT g 25 u_history, wS cT g 27 u_history_r0, wS cT g 35 u_history_r1, wS cT g 43 u_history_r2, wS cT g 51 u_history_r3, wS cT g 59 u_history_r4, wS cT g 67 u_history_r5]))) (QI D o.1 (List.flatten [wT g, wS cT g 1 o.2.1, wH cT g 25 o.2.2.1, wS cT g 27 o.2.2.2.1, wS cT g 35 o.2.2.2.2.1, wS cT g 43 o.2.2.2.2.2.1, wS cT g 51 o.2.2.2.2.2.2.1, wS cT g 59 o.2.2.2.2.2.2.2.1, wS cT g 67 o.2.2.2.2.2.2.2.2]) (va_A (List.flatten [wT g, wS cT g 1 u_now, wH cT g 25 u_history, wS cT g 27 u_history_r0, wS cT g 35 u_history_r1, wS cT g 43 u_history_r2, wS cT g 51 u_history_r3, wS cT g 59 u_history_r4, wS cT g 67 u_history_r5]) sz)) 0 0 (va_A (List.flatten [wT g, wS cT g 1 u_now, wH cT g 25 u_history, wS cT g 27 u_history_r0, wS cT g 35 u_history_r1, wS cT g 43 u_history_r2, wS cT g 51 u_history_r3, wS cT g 59 u_history_r4, wS cT g 67 u_history_r5]) sz) := by
  refine Met.ofW (cc := cX4_begin) (maxL := 3) (ret := (some .int)) (by decide) rfl ?_
  intro p e s m args below meth c s₁ B0 hml hv
  obtain ⟨hav, hsz, hP, hK, hD, hN, hZ⟩ := hv
  have hx := B0.exec
  have hb := B0.bytes
  have hr := B0.returns
  have hts := atoms_spec (ws := wsX4_begin) B0.pre
  have hown : s.vm.findClass RX4 = some m.cls := findClass_of_methodNamed B0.named
  have hlocks := B0.notSynchronized
  subst hsz
  have hD := hD.self (sz := s.heap.size)
  have hA : ∀ q : Nat, s.heap.size ≤ q → va_A (List.flatten [wT g, wS cT g 1 u_now, wH cT g 25 u_history, wS cT g 27 u_history_r0, wS cT g 35 u_history_r1, wS cT g 43 u_history_r2, wS cT g 51 u_history_r3, wS cT g 59 u_history_r4, wS cT g 67 u_history_r5]) s.heap.size q := fun q h => Or.inr h
  generalize va_A (List.flatten [wT g, wS cT g 1 u_now, wH cT g 25 u_history, wS cT g 27 u_history_r0, wS cT g 35 u_history_r1, wS cT g 43 u_history_r2, wS cT g 51 u_history_r3, wS cT g 59 u_history_r4, wS cT g 67 u_history_r5]) s.heap.size = A at hD hZ hA ⊢
  have hS : va_S A s.heap s.heap [] := va_S.rf
  have hl := lv_entry ([.ref (g 0), .int p0]) (n := 3) (Nat.le_of_ble_eq_true rfl)
  rw [hav]
  rw [lg_entry_eq]
  generalize (lg_sl ([.ref (g 0), .int p0]) ++ List.replicate (3 - (lg_sl ([.ref (g 0), .int p0])).length) Slot.unset).toArray = ls at hl ⊢
  have hl : lv_has ls 3 [(0, .ref (g 0)), (1, .int p0)] := hl
  rw [← hav]
  generalize hQ : MQ below _ _ _ _ _ _ = Q
  show W p l e rm_X4_begin s m args below meth c s.heap [] 0 0 Q (F0 m 0 ls [])
  unfold f_X4_begin at hf
  refine lv_iload_n hx hb dX4_begin_0 rfl (lv_at hl 1 rfl) ?_
  refine lv_bipush (v := 10) hx hb dX4_begin_1 (by decide) ?_
  refine lv_bipush (v := 60) hx hb dX4_begin_3 (by decide) ?_
  obtain ⟨o6, ho6, hf⟩ := bd_i hf
  refine cl_i [] [0, 1, 2, 3, 4, 5, 6, 7, 8] [wT g, wS cT g 1 u_now, wH cT g 25 u_history, wS cT g 27 u_history_r0, wS cT g 35 u_history_r1, wS cT g 43 u_history_r2, wS cT g 51 u_history_r3, wS cT g 59 u_history_r4, wS cT g 67 u_history_r5] hP (va_D_adr hD rfl) hA hS (va_runS (As := [.int p0, .int ((10 : Int32)), .int ((60 : Int32))]) (rest := []) ⟨hx, hb, hml, hown, hts⟩ (c_X4_isWithin l D cT g  fu  p0 ((10 : Int32)) ((60 : Int32)) o6 ho6 _) (va_cwS 3 hts gX4_begin_X4_isWithin rfl rfl rfl (by decide +kernel) ⟨Nat.le_of_ble_eq_true rfl, Nat.le_of_ble_eq_true rfl⟩) ⟨PRE_blind, PRE_ok [] (by decide) hP (va_D_adr hD rfl) hA hS hK hN hZ⟩ rfl rfl hl.1 rfl (lv_room (Nat.le_of_ble_eq_true rfl)) dX4_begin_5 ⟨Nat.le_of_ble_eq_true rfl, Nat.le_of_ble_eq_true rfl⟩) rfl 9 rfl (by decide) (by decide) (fun H locs hP hS => ?_)
  refine lv_if_ne (tgt := 14) hx hb dX4_begin_8 (by decide) (fun c7 => ?_) (fun c7 => ?_)
  · replace hf := it_t hf c7
    refine lv_aload_n hx hb dX4_begin_14 rfl (lv_at hl 0 rfl) ?_
    refine va_get (ci := 4) (v := .ref (g 1)) (C := RX4) (T := TX4) (N := 8) hx hb hts iw_X4_begin_X4 hown hK hP 0 rfl rfl 0 (by decide) (hts (.fieldLink RX4 10 "BallastTrack" "now" "LBallastTrack$State;") (List.mem_of_getElem? (i := 2) rfl)) (fun _ h9 => h9) rfl dX4_begin_15 ?_
    refine va_get (ci := 1) (v := .int (S_sl u_now)) (C := RX1) (T := TX1) (N := 9) hx hb hts iw_X4_begin_X1 hown hK hP 1 rfl rfl 0 (by decide) (hts (.fieldLink RX4 58 "BallastTrack$State" "sleepers" "I") (List.mem_of_getElem? (i := 3) rfl)) (fun _ h9 => h9) rfl dX4_begin_18 ?_
    refine lv_topi (fun x8 ex8 => ?_)
    replace hf := nm_i hf ex8
    refine lv_istore_n (lv' := [(2, .int x8), (0, .ref (g 0)), (1, .int p0)]) hx hb dX4_begin_21 rfl hl (by decide) rfl (fun ls hl => ?_)
    refine lv_aload_n hx hb dX4_begin_22 rfl (lv_at hl 1 rfl) ?_
    refine va_get (ci := 4) (v := .ref (g 25)) (C := RX4) (T := TX4) (N := 8) hx hb hts iw_X4_begin_X4 hown hK hP 0 rfl rfl 4 (by decide) (hts (.fieldLink RX4 34 "BallastTrack" "history" "LBallastTrack$History;") (List.mem_of_getElem? (i := 4) rfl)) (fun _ h9 => h9) rfl dX4_begin_23 ?_
    refine lv_aload_n hx hb dX4_begin_26 rfl (lv_at hl 1 rfl) ?_
    refine va_get (ci := 4) (v := .ref (g 1)) (C := RX4) (T := TX4) (N := 8) hx hb hts iw_X4_begin_X4 hown hK hP 0 rfl rfl 0 (by decide) (hts (.fieldLink RX4 10 "BallastTrack" "now" "LBallastTrack$State;") (List.mem_of_getElem? (i := 2) rfl)) (fun _ h9 => h9) rfl dX4_begin_27 ?_
    obtain ⟨o9, ho9, hf⟩ := bd_i hf
    refine cl_v [2, 3, 4, 5, 6, 7, 8, 1] [0] [wT g, wS cT g 1 u_now, wH cT g 25 o9.1, wS cT g 27 o9.2.1, wS cT g 35 o9.2.2.1, wS cT g 43 o9.2.2.2.1, wS cT g 51 o9.2.2.2.2.1, wS cT g 59 o9.2.2.2.2.2.1, wS cT g 67 o9.2.2.2.2.2.2] hP (va_D_adr hD rfl) hA hS (va_runV (As := [.ref (g 1)]) (rest := []) ⟨hx, hb, hml, hown, hts⟩ (c_X0_save l D cT g 25 1 fu u_history u_history_r0 u_history_r1 u_history_r2 u_history_r3 u_history_r4 u_history_r5 u_now  o9 ho9 _) (cwV 1 hts gX4_begin_X0_save rfl rfl rfl (by decide +kernel) ⟨Nat.le_of_ble_eq_true rfl, Nat.le_of_ble_eq_true rfl⟩) ⟨PRE_blind, va_recv hK hP (ci := 0) (q0 := 9) rfl rfl, PRE_ok [2, 3, 4, 5, 6, 7, 8, 1] (by decide) hP (va_D_adr hD rfl) hA hS hK hN hZ⟩ rfl rfl hl.1 rfl (lv_room (Nat.le_of_ble_eq_true rfl)) dX4_begin_30 ⟨Nat.le_of_ble_eq_true rfl, Nat.le_of_ble_eq_true rfl⟩) rfl 9 rfl (by decide) (by decide) (fun H locs hP hS => ?_)
    refine lv_aload_n hx hb dX4_begin_33 rfl (lv_at hl 1 rfl) ?_
    refine va_get (ci := 4) (v := .ref (g 1)) (C := RX4) (T := TX4) (N := 8) hx hb hts iw_X4_begin_X4 hown hK hP 0 rfl rfl 0 (by decide) (hts (.fieldLink RX4 10 "BallastTrack" "now" "LBallastTrack$State;") (List.mem_of_getElem? (i := 2) rfl)) (fun _ h9 => h9) rfl dX4_begin_34 ?_
    refine lv_iload_n hx hb dX4_begin_37 rfl (lv_at hl 2 rfl) ?_
    obtain ⟨o10, ho10, hf⟩ := bd_i hf
    refine cl_v [1] [0, 2, 3, 4, 5, 6, 7, 8] [wT g, wS cT g 1 o10, wH cT g 25 o9.1, wS cT g 27 o9.2.1, wS cT g 35 o9.2.2.1, wS cT g 43 o9.2.2.2.1, wS cT g 51 o9.2.2.2.2.1, wS cT g 59 o9.2.2.2.2.2.1, wS cT g 67 o9.2.2.2.2.2.2] hP (va_D_adr hD rfl) hA hS (va_runV (As := [.int p0]) (rest := []) ⟨hx, hb, hml, hown, hts⟩ (c_X1_makeNew l D cT g 1 fu u_now p0 o10 ho10 _) (cwV 1 hts gX4_begin_X1_makeNew rfl rfl rfl (by decide +kernel) ⟨Nat.le_of_ble_eq_true rfl, Nat.le_of_ble_eq_true rfl⟩) ⟨PRE_blind, va_recv hK hP (ci := 1) (q0 := 1) rfl rfl, PRE_ok [1] (by decide) hP (va_D_adr hD rfl) hA hS hK hN hZ⟩ rfl rfl hl.1 rfl (lv_room (Nat.le_of_ble_eq_true rfl)) dX4_begin_38 ⟨Nat.le_of_ble_eq_true rfl, Nat.le_of_ble_eq_true rfl⟩) rfl 9 rfl (by decide) (by decide) (fun H locs hP hS => ?_)
    refine lv_iload_n hx hb dX4_begin_41 rfl (lv_at hl 0 rfl) ?_
    obtain rfl := Option.some.inj hf
    subst hQ
    exact en_i hx hb hr hP hS hlocks dX4_begin_42
  · replace hf := it_f hf (not_not_intro c7)
    refine lv_ldc (v := -100001) hx hb hown (hts (.constant RX4 57 (-100001)) (List.mem_of_getElem? (i := 1) rfl)) dX4_begin_11 ?_
    obtain rfl := Option.some.inj hf
    subst hQ
    exact en_i hx hb hr hP hS hlocks dX4_begin_13
theorem iw_X4_greatestNumber_X1 : ∀ w ∈ u_ws RX1 TX1 9, w ∈ wsX4_greatestNumber := by decide +kernel
theorem iw_X4_greatestNumber_X4 : ∀ w ∈ u_ws RX4 TX4 8, w ∈ wsX4_greatestNumber := by decide +kernel
def f_X4_greatestNumber (fu : Nat) (u_now : TS) (p0 : Int32) : Option (Int32) :=
jn (nm (p0 + (1 : Int32)) fun (x26 : Int32) =>
ix x26 8 <|
nm ((S_nu u_now) x26.toNatClampNeg) fun (x28 : Int32) =>
nm (x28 - (1 : Int32)) fun (x29 : Int32) =>
some (x29)
) fun K10_25 =>
if p0 = (3 : Int32) then (
K10_25 
)
else (
if ¬ p0 = (4 : Int32) then (
ix p0 8 <|
nm (tG p0.toNatClampNeg) fun (x33 : Int32) =>
some (x33)
)
else (
K10_25 
)
)

abbrev rm_X4_greatestNumber : Room := { frames := 0, cells := 0, slots := 0, locals := 0 }
set_option maxHeartbeats 4000000 in
set_option maxRecDepth 100000 in
theorem c_X4_greatestNumber (l : Launch) (D : va_G) (cT : Nat → ClassId) (g : Nat → Nat) (fu : Nat) (u_now : TS) (p0 : Int32) (o : Int32) (hf : f_X4_greatestNumber fu u_now p0 = some o) (sz : Nat) : Met l yX4_greatestNumber wsX4_greatestNumber rm_X4_greatestNumber (va_Pc [.ref (g 0), .int p0] (PRE D cT sz (List.flatten [wT g, wS cT g 1 u_now]))) (QI D o (List.flatten [wT g, wS cT g 1 u_now]) (va_A (List.flatten [wT g, wS cT g 1 u_now]) sz)) 0 0 (va_A (List.flatten [wT g, wS cT g 1 u_now]) sz) := by
  refine Met.ofW (cc := cX4_greatestNumber) (maxL := 2) (ret := (some .int)) (by decide) rfl ?_
  intro p e s m args below meth c s₁ B0 hml hv
  obtain ⟨hav, hsz, hP, hK, hD, hN, hZ⟩ := hv
  have hx := B0.exec
  have hb := B0.bytes
  have hr := B0.returns
  have hts := atoms_spec (ws := wsX4_greatestNumber) B0.pre
  have hown : s.vm.findClass RX4 = some m.cls := findClass_of_methodNamed B0.named
  have hlocks := B0.notSynchronized
  subst hsz
  have hD := hD.self (sz := s.heap.size)
  have hA : ∀ q : Nat, s.heap.size ≤ q → va_A (List.flatten [wT g, wS cT g 1 u_now]) s.heap.size q := fun q h => Or.inr h
  generalize va_A (List.flatten [wT g, wS cT g 1 u_now]) s.heap.size = A at hD hZ hA ⊢
  have hS : va_S A s.heap s.heap [] := va_S.rf
  have hl := lv_entry ([.ref (g 0), .int p0]) (n := 2) (Nat.le_of_ble_eq_true rfl)
  rw [hav]
  rw [lg_entry_eq]
  generalize (lg_sl ([.ref (g 0), .int p0]) ++ List.replicate (2 - (lg_sl ([.ref (g 0), .int p0])).length) Slot.unset).toArray = ls at hl ⊢
  have hl : lv_has ls 2 [(0, .ref (g 0)), (1, .int p0)] := hl
  rw [← hav]
  generalize hQ : MQ below _ _ _ _ _ _ = Q
  show W p l e rm_X4_greatestNumber s m args below meth c s.heap [] 0 0 Q (F0 m 0 ls [])
  unfold f_X4_greatestNumber at hf
  refine lv_iload_n hx hb dX4_greatestNumber_0 rfl (lv_at hl 1 rfl) ?_
  refine lv_iconst (v := 3) hx hb dX4_greatestNumber_1 (by decide) ?_
  obtain ⟨K10_25, eK10_25, hf⟩ := jn_i hf
  have hK10_25 : ∀  (H : Heap) (locs : List Loc) (ls : Array Slot), K10_25  = some o → va_P D vwCl (List.flatten [wT g, wS cT g 1 u_now]) H → va_S A s.heap H locs → lv_has ls 2 [(0, .ref (g 0)), (1, .int p0)] → W p l e rm_X4_greatestNumber s m args below meth c H locs 0 0 Q (F0 m 10 ls []) := by
    intro  H locs ls hf hP hS hl
    rw [eK10_25] at hf
    refine lv_aload_n hx hb dX4_greatestNumber_10 rfl (lv_at hl 0 rfl) ?_
    refine va_get (ci := 4) (v := .ref (g 1)) (C := RX4) (T := TX4) (N := 8) hx hb hts iw_X4_greatestNumber_X4 hown hK hP 0 rfl rfl 0 (by decide) (hts (.fieldLink RX4 10 "BallastTrack" "now" "LBallastTrack$State;") (List.mem_of_getElem? (i := 1) rfl)) (fun _ h9 => h9) rfl dX4_greatestNumber_11 ?_
    refine va_get (ci := 1) (v := .ref (g (1 + 1))) (C := RX1) (T := TX1) (N := 9) hx hb hts iw_X4_greatestNumber_X1 hown hK hP 1 rfl rfl 2 (by decide) (hts (.fieldLink RX4 76 "BallastTrack$State" "numbers" "[I") (List.mem_of_getElem? (i := 2) rfl)) (fun _ h9 => h9) rfl dX4_greatestNumber_14 ?_
    refine lv_iload_n hx hb dX4_greatestNumber_17 rfl (lv_at hl 1 rfl) ?_
    refine lv_iconst (v := 1) hx hb dX4_greatestNumber_18 (by decide) ?_
    refine lv_iadd hx hb dX4_greatestNumber_19 ?_
    refine lv_topi (fun x26 ex26 => ?_)
    replace hf := nm_i hf ex26
    obtain ⟨hi27, hf⟩ := ix_i hf
    refine va_iald hx hb hK hP 2 0 rfl rfl hi27 dX4_greatestNumber_20 ?_
    refine lv_topi (fun x28 ex28 => ?_)
    replace hf := nm_i hf ex28
    refine lv_iconst (v := 1) hx hb dX4_greatestNumber_21 (by decide) ?_
    refine lv_isub hx hb dX4_greatestNumber_22 ?_
    refine lv_topi (fun x29 ex29 => ?_)
    replace hf := nm_i hf ex29
    obtain rfl := Option.some.inj hf
    subst hQ
    exact en_i hx hb hr hP hS hlocks dX4_greatestNumber_23
  clear eK10_25
  refine lv_icmp_eq (tgt := 10) hx hb dX4_greatestNumber_2 (by decide) (fun c30 => ?_) (fun c30 => ?_)
  · replace hf := it_t hf c30
    exact hK10_25  _ _ _ hf hP hS (lv_sub hl [0, 1] rfl)
  · replace hf := it_f hf c30
    refine lv_iload_n hx hb dX4_greatestNumber_5 rfl (lv_at hl 1 rfl) ?_
    refine lv_iconst (v := 4) hx hb dX4_greatestNumber_6 (by decide) ?_
    refine lv_icmp_ne (tgt := 24) hx hb dX4_greatestNumber_7 (by decide) (fun c31 => ?_) (fun c31 => ?_)
    · replace hf := it_t hf c31
      obtain ⟨tGREATEST_NUMBERS, hzGREATEST_NUMBERS, htGREATEST_NUMBERS⟩ := hZ.2.2
      refine va_gets hx hb hzGREATEST_NUMBERS hS hown (hts (.fieldLink RX4 204 "BallastTrack" "GREATEST_NUMBERS" "[I") (List.mem_of_getElem? (i := 3) rfl)) (fun _ h9 => h9) dX4_greatestNumber_24 ?_
      refine lv_iload_n hx hb dX4_greatestNumber_27 rfl (lv_at hl 1 rfl) ?_
      obtain ⟨hi32, hf⟩ := ix_i hf
      refine va_ti (v := .int (tG p0.toNatClampNeg)) hx hb htGREATEST_NUMBERS hS hi32 rfl dX4_greatestNumber_28 ?_
      refine lv_topi (fun x33 ex33 => ?_)
      replace hf := nm_i hf ex33
      obtain rfl := Option.some.inj hf
      subst hQ
      exact en_i hx hb hr hP hS hlocks dX4_greatestNumber_29
    · replace hf := it_f hf (not_not_intro c31)
      exact hK10_25  _ _ _ hf hP hS (lv_sub hl [0, 1] rfl)
theorem iw_X4_leastNumber_X1 : ∀ w ∈ u_ws RX1 TX1 9, w ∈ wsX4_leastNumber := by decide +kernel
theorem iw_X4_leastNumber_X4 : ∀ w ∈ u_ws RX4 TX4 8, w ∈ wsX4_leastNumber := by decide +kernel
def f_X4_leastNumber (fu : Nat) (u_now : TS) (p0 : Int32) : Option (Int32) :=
jn (nm (p0 - (1 : Int32)) fun (x26 : Int32) =>
ix x26 8 <|
nm ((S_nu u_now) x26.toNatClampNeg) fun (x28 : Int32) =>
nm (x28 + (1 : Int32)) fun (x29 : Int32) =>
some (x29)
) fun K10_25 =>
if p0 = (4 : Int32) then (
K10_25 
)
else (
if ¬ p0 = (5 : Int32) then (
ix p0 8 <|
nm (tL p0.toNatClampNeg) fun (x33 : Int32) =>
some (x33)
)
else (
K10_25 
)
)

abbrev rm_X4_leastNumber : Room := { frames := 0, cells := 0, slots := 0, locals := 0 }
set_option maxHeartbeats 4000000 in
set_option maxRecDepth 100000 in
theorem c_X4_leastNumber (l : Launch) (D : va_G) (cT : Nat → ClassId) (g : Nat → Nat) (fu : Nat) (u_now : TS) (p0 : Int32) (o : Int32) (hf : f_X4_leastNumber fu u_now p0 = some o) (sz : Nat) : Met l yX4_leastNumber wsX4_leastNumber rm_X4_leastNumber (va_Pc [.ref (g 0), .int p0] (PRE D cT sz (List.flatten [wT g, wS cT g 1 u_now]))) (QI D o (List.flatten [wT g, wS cT g 1 u_now]) (va_A (List.flatten [wT g, wS cT g 1 u_now]) sz)) 0 0 (va_A (List.flatten [wT g, wS cT g 1 u_now]) sz) := by
  refine Met.ofW (cc := cX4_leastNumber) (maxL := 2) (ret := (some .int)) (by decide) rfl ?_
  intro p e s m args below meth c s₁ B0 hml hv
  obtain ⟨hav, hsz, hP, hK, hD, hN, hZ⟩ := hv
  have hx := B0.exec
  have hb := B0.bytes
  have hr := B0.returns
  have hts := atoms_spec (ws := wsX4_leastNumber) B0.pre
  have hown : s.vm.findClass RX4 = some m.cls := findClass_of_methodNamed B0.named
  have hlocks := B0.notSynchronized
  subst hsz
  have hD := hD.self (sz := s.heap.size)
  have hA : ∀ q : Nat, s.heap.size ≤ q → va_A (List.flatten [wT g, wS cT g 1 u_now]) s.heap.size q := fun q h => Or.inr h
  generalize va_A (List.flatten [wT g, wS cT g 1 u_now]) s.heap.size = A at hD hZ hA ⊢
  have hS : va_S A s.heap s.heap [] := va_S.rf
  have hl := lv_entry ([.ref (g 0), .int p0]) (n := 2) (Nat.le_of_ble_eq_true rfl)
  rw [hav]
  rw [lg_entry_eq]
  generalize (lg_sl ([.ref (g 0), .int p0]) ++ List.replicate (2 - (lg_sl ([.ref (g 0), .int p0])).length) Slot.unset).toArray = ls at hl ⊢
  have hl : lv_has ls 2 [(0, .ref (g 0)), (1, .int p0)] := hl
  rw [← hav]
  generalize hQ : MQ below _ _ _ _ _ _ = Q
  show W p l e rm_X4_leastNumber s m args below meth c s.heap [] 0 0 Q (F0 m 0 ls [])
  unfold f_X4_leastNumber at hf
  refine lv_iload_n hx hb dX4_leastNumber_0 rfl (lv_at hl 1 rfl) ?_
  refine lv_iconst (v := 4) hx hb dX4_leastNumber_1 (by decide) ?_
  obtain ⟨K10_25, eK10_25, hf⟩ := jn_i hf
  have hK10_25 : ∀  (H : Heap) (locs : List Loc) (ls : Array Slot), K10_25  = some o → va_P D vwCl (List.flatten [wT g, wS cT g 1 u_now]) H → va_S A s.heap H locs → lv_has ls 2 [(0, .ref (g 0)), (1, .int p0)] → W p l e rm_X4_leastNumber s m args below meth c H locs 0 0 Q (F0 m 10 ls []) := by
    intro  H locs ls hf hP hS hl
    rw [eK10_25] at hf
    refine lv_aload_n hx hb dX4_leastNumber_10 rfl (lv_at hl 0 rfl) ?_
    refine va_get (ci := 4) (v := .ref (g 1)) (C := RX4) (T := TX4) (N := 8) hx hb hts iw_X4_leastNumber_X4 hown hK hP 0 rfl rfl 0 (by decide) (hts (.fieldLink RX4 10 "BallastTrack" "now" "LBallastTrack$State;") (List.mem_of_getElem? (i := 1) rfl)) (fun _ h9 => h9) rfl dX4_leastNumber_11 ?_
    refine va_get (ci := 1) (v := .ref (g (1 + 1))) (C := RX1) (T := TX1) (N := 9) hx hb hts iw_X4_leastNumber_X1 hown hK hP 1 rfl rfl 2 (by decide) (hts (.fieldLink RX4 76 "BallastTrack$State" "numbers" "[I") (List.mem_of_getElem? (i := 2) rfl)) (fun _ h9 => h9) rfl dX4_leastNumber_14 ?_
    refine lv_iload_n hx hb dX4_leastNumber_17 rfl (lv_at hl 1 rfl) ?_
    refine lv_iconst (v := 1) hx hb dX4_leastNumber_18 (by decide) ?_
    refine lv_isub hx hb dX4_leastNumber_19 ?_
    refine lv_topi (fun x26 ex26 => ?_)
    replace hf := nm_i hf ex26
    obtain ⟨hi27, hf⟩ := ix_i hf
    refine va_iald hx hb hK hP 2 0 rfl rfl hi27 dX4_leastNumber_20 ?_
    refine lv_topi (fun x28 ex28 => ?_)
    replace hf := nm_i hf ex28
    refine lv_iconst (v := 1) hx hb dX4_leastNumber_21 (by decide) ?_
    refine lv_iadd hx hb dX4_leastNumber_22 ?_
    refine lv_topi (fun x29 ex29 => ?_)
    replace hf := nm_i hf ex29
    obtain rfl := Option.some.inj hf
    subst hQ
    exact en_i hx hb hr hP hS hlocks dX4_leastNumber_23
  clear eK10_25
  refine lv_icmp_eq (tgt := 10) hx hb dX4_leastNumber_2 (by decide) (fun c30 => ?_) (fun c30 => ?_)
  · replace hf := it_t hf c30
    exact hK10_25  _ _ _ hf hP hS (lv_sub hl [0, 1] rfl)
  · replace hf := it_f hf c30
    refine lv_iload_n hx hb dX4_leastNumber_5 rfl (lv_at hl 1 rfl) ?_
    refine lv_iconst (v := 5) hx hb dX4_leastNumber_6 (by decide) ?_
    refine lv_icmp_ne (tgt := 24) hx hb dX4_leastNumber_7 (by decide) (fun c31 => ?_) (fun c31 => ?_)
    · replace hf := it_t hf c31
      obtain ⟨tLEAST_NUMBERS, hzLEAST_NUMBERS, htLEAST_NUMBERS⟩ := hZ.2.1
      refine va_gets hx hb hzLEAST_NUMBERS hS hown (hts (.fieldLink RX4 201 "BallastTrack" "LEAST_NUMBERS" "[I") (List.mem_of_getElem? (i := 3) rfl)) (fun _ h9 => h9) dX4_leastNumber_24 ?_
      refine lv_iload_n hx hb dX4_leastNumber_27 rfl (lv_at hl 1 rfl) ?_
      obtain ⟨hi32, hf⟩ := ix_i hf
      refine va_ti (v := .int (tL p0.toNatClampNeg)) hx hb htLEAST_NUMBERS hS hi32 rfl dX4_leastNumber_28 ?_
      refine lv_topi (fun x33 ex33 => ?_)
      replace hf := nm_i hf ex33
      obtain rfl := Option.some.inj hf
      subst hQ
      exact en_i hx hb hr hP hS hlocks dX4_leastNumber_29
    · replace hf := it_f hf (not_not_intro c31)
      exact hK10_25  _ _ _ hf hP hS (lv_sub hl [0, 1] rfl)
theorem iw_X4_setNumber_X1 : ∀ w ∈ u_ws RX1 TX1 9, w ∈ wsX4_setNumber := by decide +kernel
theorem iw_X4_setNumber_X4 : ∀ w ∈ u_ws RX4 TX4 8, w ∈ wsX4_setNumber := by decide +kernel
def f_X4_setNumber (fu : Nat) (u_now : TS) (u_history : TH) (u_history_r0 : TS) (u_history_r1 : TS) (u_history_r2 : TS) (u_history_r3 : TS) (u_history_r4 : TS) (u_history_r5 : TS) (p0 : Int32) (p1 : Int32) : Option (Int32 × TS × TH × TS × TS × TS × TS × TS × TS) :=
bd (f_X4_isWithin fu  p0 ((0 : Int32)) ((7 : Int32))) fun (o12 : Bool) =>
if bI o12 = 0 then (
some ((-100001 : Int32), u_now, u_history, u_history_r0, u_history_r1, u_history_r2, u_history_r3, u_history_r4, u_history_r5)
)
else (
bd (f_X4_leastNumber fu u_now p0) fun (o14 : Int32) =>
bd (f_X4_greatestNumber fu u_now p0) fun (o15 : Int32) =>
bd (f_X4_isWithin fu  p1 o14 o15) fun (o16 : Bool) =>
if ¬ bI o16 = 0 then (
ix p0 8 <|
nm ((S_nu u_now) p0.toNatClampNeg) fun (x19 : Int32) =>
bd (f_X0_save fu u_history u_history_r0 u_history_r1 u_history_r2 u_history_r3 u_history_r4 u_history_r5 u_now ) fun (o20 : TH × TS × TS × TS × TS × TS × TS) =>
ix p0 8 <|
nm (S_nu_ u_now (upd (S_nu u_now) p0.toNatClampNeg p1)) fun (u22 : TS) =>
some (x19, u22, o20.1, o20.2.1, o20.2.2.1, o20.2.2.2.1, o20.2.2.2.2.1, o20.2.2.2.2.2.1, o20.2.2.2.2.2.2)
)
else (
some ((-100001 : Int32), u_now, u_history, u_history_r0, u_history_r1, u_history_r2, u_history_r3, u_history_r4, u_history_r5)
)
)

abbrev rm_X4_setNumber : Room := { frames := 3, cells := 0, slots := 0, locals := 102 }
set_option maxHeartbeats 4000000 in
set_option maxRecDepth 100000 in
theorem c_X4_setNumber (l : Launch) (D : va_G) (cT : Nat → ClassId) (g : Nat → Nat) (fu : Nat) (u_now : TS) (u_history : TH) (u_history_r0 : TS) (u_history_r1 : TS) (u_history_r2 : TS) (u_history_r3 : TS) (u_history_r4 : TS) (u_history_r5 : TS) (p0 : Int32) (p1 : Int32) (o : Int32 × TS × TH × TS × TS × TS × TS × TS × TS) (hf : f_X4_setNumber fu u_now u_history u_history_r0 u_history_r1 u_history_r2 u_history_r3 u_history_r4 u_history_r5 p0 p1 = some o) (sz : Nat) : Met l yX4_setNumber wsX4_setNumber rm_X4_setNumber (va_Pc [.ref (g 0), .int p0, .int p1] (PRE D cT sz (List.flatten [wT g, wS cT g 1 u_now, wH cT g 25 u_history, wS cT g 27 u_history_r0, wS cT g 35 u_history_r1, wS cT g 43 u_history_r2, wS cT g 51 u_history_r3, wS cT g 59 u_history_r4, wS cT g 67 u_history_r5]))) (QI D o.1 (List.flatten [wT g, wS cT g 1 o.2.1, wH cT g 25 o.2.2.1, wS cT g 27 o.2.2.2.1, wS cT g 35 o.2.2.2.2.1, wS cT g 43 o.2.2.2.2.2.1, wS cT g 51 o.2.2.2.2.2.2.1, wS cT g 59 o.2.2.2.2.2.2.2.1, wS cT g 67 o.2.2.2.2.2.2.2.2]) (va_A (List.flatten [wT g, wS cT g 1 u_now, wH cT g 25 u_history, wS cT g 27 u_history_r0, wS cT g 35 u_history_r1, wS cT g 43 u_history_r2, wS cT g 51 u_history_r3, wS cT g 59 u_history_r4, wS cT g 67 u_history_r5]) sz)) 0 0 (va_A (List.flatten [wT g, wS cT g 1 u_now, wH cT g 25 u_history, wS cT g 27 u_history_r0, wS cT g 35 u_history_r1, wS cT g 43 u_history_r2, wS cT g 51 u_history_r3, wS cT g 59 u_history_r4, wS cT g 67 u_history_r5]) sz) := by
  refine Met.ofW (cc := cX4_setNumber) (maxL := 4) (ret := (some .int)) (by decide) rfl ?_
  intro p e s m args below meth c s₁ B0 hml hv
  obtain ⟨hav, hsz, hP, hK, hD, hN, hZ⟩ := hv
  have hx := B0.exec
  have hb := B0.bytes
  have hr := B0.returns
  have hts := atoms_spec (ws := wsX4_setNumber) B0.pre
  have hown : s.vm.findClass RX4 = some m.cls := findClass_of_methodNamed B0.named
  have hlocks := B0.notSynchronized
  subst hsz
  have hD := hD.self (sz := s.heap.size)
  have hA : ∀ q : Nat, s.heap.size ≤ q → va_A (List.flatten [wT g, wS cT g 1 u_now, wH cT g 25 u_history, wS cT g 27 u_history_r0, wS cT g 35 u_history_r1, wS cT g 43 u_history_r2, wS cT g 51 u_history_r3, wS cT g 59 u_history_r4, wS cT g 67 u_history_r5]) s.heap.size q := fun q h => Or.inr h
  generalize va_A (List.flatten [wT g, wS cT g 1 u_now, wH cT g 25 u_history, wS cT g 27 u_history_r0, wS cT g 35 u_history_r1, wS cT g 43 u_history_r2, wS cT g 51 u_history_r3, wS cT g 59 u_history_r4, wS cT g 67 u_history_r5]) s.heap.size = A at hD hZ hA ⊢
  have hS : va_S A s.heap s.heap [] := va_S.rf
  have hl := lv_entry ([.ref (g 0), .int p0, .int p1]) (n := 4) (Nat.le_of_ble_eq_true rfl)
  rw [hav]
  rw [lg_entry_eq]
  generalize (lg_sl ([.ref (g 0), .int p0, .int p1]) ++ List.replicate (4 - (lg_sl ([.ref (g 0), .int p0, .int p1])).length) Slot.unset).toArray = ls at hl ⊢
  have hl : lv_has ls 4 [(0, .ref (g 0)), (1, .int p0), (2, .int p1)] := hl
  rw [← hav]
  generalize hQ : MQ below _ _ _ _ _ _ = Q
  show W p l e rm_X4_setNumber s m args below meth c s.heap [] 0 0 Q (F0 m 0 ls [])
  unfold f_X4_setNumber at hf
  refine lv_iload_n hx hb dX4_setNumber_0 rfl (lv_at hl 1 rfl) ?_
  refine lv_iconst (v := 0) hx hb dX4_setNumber_1 (by decide) ?_
  refine lv_bipush (v := 7) hx hb dX4_setNumber_2 (by decide) ?_
  obtain ⟨o12, ho12, hf⟩ := bd_i hf
  refine cl_i [] [0, 1, 2, 3, 4, 5, 6, 7, 8] [wT g, wS cT g 1 u_now, wH cT g 25 u_history, wS cT g 27 u_history_r0, wS cT g 35 u_history_r1, wS cT g 43 u_history_r2, wS cT g 51 u_history_r3, wS cT g 59 u_history_r4, wS cT g 67 u_history_r5] hP (va_D_adr hD rfl) hA hS (va_runS (As := [.int p0, .int ((0 : Int32)), .int ((7 : Int32))]) (rest := []) ⟨hx, hb, hml, hown, hts⟩ (c_X4_isWithin l D cT g  fu  p0 ((0 : Int32)) ((7 : Int32)) o12 ho12 _) (va_cwS 3 hts gX4_setNumber_X4_isWithin rfl rfl rfl (by decide +kernel) ⟨Nat.le_of_ble_eq_true rfl, Nat.le_of_ble_eq_true rfl⟩) ⟨PRE_blind, PRE_ok [] (by decide) hP (va_D_adr hD rfl) hA hS hK hN hZ⟩ rfl rfl hl.1 rfl (lv_room (Nat.le_of_ble_eq_true rfl)) dX4_setNumber_4 ⟨Nat.le_of_ble_eq_true rfl, Nat.le_of_ble_eq_true rfl⟩) rfl 9 rfl (by decide) (by decide) (fun H locs hP hS => ?_)
  refine lv_if_eq (tgt := 27) hx hb dX4_setNumber_7 (by decide) (fun c13 => ?_) (fun c13 => ?_)
  · replace hf := it_t hf c13
    refine lv_ldc (v := -100001) hx hb hown (hts (.constant RX4 57 (-100001)) (List.mem_of_getElem? (i := 1) rfl)) dX4_setNumber_27 ?_
    obtain rfl := Option.some.inj hf
    subst hQ
    exact en_i hx hb hr hP hS hlocks dX4_setNumber_29
  · replace hf := it_f hf c13
    refine lv_iload_n hx hb dX4_setNumber_10 rfl (lv_at hl 2 rfl) ?_
    refine lv_aload_n hx hb dX4_setNumber_11 rfl (lv_at hl 0 rfl) ?_
    refine lv_iload_n hx hb dX4_setNumber_12 rfl (lv_at hl 1 rfl) ?_
    obtain ⟨o14, ho14, hf⟩ := bd_i hf
    refine cl_i [0, 1] [2, 3, 4, 5, 6, 7, 8] [wT g, wS cT g 1 u_now, wH cT g 25 u_history, wS cT g 27 u_history_r0, wS cT g 35 u_history_r1, wS cT g 43 u_history_r2, wS cT g 51 u_history_r3, wS cT g 59 u_history_r4, wS cT g 67 u_history_r5] hP (va_D_adr hD rfl) hA hS (va_runV (As := [.int p0]) (rest := [.int p1]) ⟨hx, hb, hml, hown, hts⟩ (c_X4_leastNumber l D cT g  fu u_now p0 o14 ho14 _) (cwV 1 hts gX4_setNumber_X4_leastNumber rfl rfl rfl (by decide +kernel) ⟨Nat.le_of_ble_eq_true rfl, Nat.le_of_ble_eq_true rfl⟩) ⟨PRE_blind, va_recv hK hP (ci := 4) (q0 := 0) rfl rfl, PRE_ok [0, 1] (by decide) hP (va_D_adr hD rfl) hA hS hK hN hZ⟩ rfl rfl hl.1 rfl (lv_room (Nat.le_of_ble_eq_true rfl)) dX4_setNumber_13 ⟨Nat.le_of_ble_eq_true rfl, Nat.le_of_ble_eq_true rfl⟩) rfl 9 rfl (by decide) (by decide) (fun H locs hP hS => ?_)
    refine lv_aload_n hx hb dX4_setNumber_16 rfl (lv_at hl 0 rfl) ?_
    refine lv_iload_n hx hb dX4_setNumber_17 rfl (lv_at hl 1 rfl) ?_
    obtain ⟨o15, ho15, hf⟩ := bd_i hf
    refine cl_i [0, 1] [2, 3, 4, 5, 6, 7, 8] [wT g, wS cT g 1 u_now, wH cT g 25 u_history, wS cT g 27 u_history_r0, wS cT g 35 u_history_r1, wS cT g 43 u_history_r2, wS cT g 51 u_history_r3, wS cT g 59 u_history_r4, wS cT g 67 u_history_r5] hP (va_D_adr hD rfl) hA hS (va_runV (As := [.int p0]) (rest := [.int o14, .int p1]) ⟨hx, hb, hml, hown, hts⟩ (c_X4_greatestNumber l D cT g  fu u_now p0 o15 ho15 _) (cwV 1 hts gX4_setNumber_X4_greatestNumber rfl rfl rfl (by decide +kernel) ⟨Nat.le_of_ble_eq_true rfl, Nat.le_of_ble_eq_true rfl⟩) ⟨PRE_blind, va_recv hK hP (ci := 4) (q0 := 0) rfl rfl, PRE_ok [0, 1] (by decide) hP (va_D_adr hD rfl) hA hS hK hN hZ⟩ rfl rfl hl.1 rfl (lv_room (Nat.le_of_ble_eq_true rfl)) dX4_setNumber_18 ⟨Nat.le_of_ble_eq_true rfl, Nat.le_of_ble_eq_true rfl⟩) rfl 9 rfl (by decide) (by decide) (fun H locs hP hS => ?_)
    obtain ⟨o16, ho16, hf⟩ := bd_i hf
    refine cl_i [] [0, 1, 2, 3, 4, 5, 6, 7, 8] [wT g, wS cT g 1 u_now, wH cT g 25 u_history, wS cT g 27 u_history_r0, wS cT g 35 u_history_r1, wS cT g 43 u_history_r2, wS cT g 51 u_history_r3, wS cT g 59 u_history_r4, wS cT g 67 u_history_r5] hP (va_D_adr hD rfl) hA hS (va_runS (As := [.int p1, .int o14, .int o15]) (rest := []) ⟨hx, hb, hml, hown, hts⟩ (c_X4_isWithin l D cT g  fu  p1 o14 o15 o16 ho16 _) (va_cwS 3 hts gX4_setNumber_X4_isWithin rfl rfl rfl (by decide +kernel) ⟨Nat.le_of_ble_eq_true rfl, Nat.le_of_ble_eq_true rfl⟩) ⟨PRE_blind, PRE_ok [] (by decide) hP (va_D_adr hD rfl) hA hS hK hN hZ⟩ rfl rfl hl.1 rfl (lv_room (Nat.le_of_ble_eq_true rfl)) dX4_setNumber_21 ⟨Nat.le_of_ble_eq_true rfl, Nat.le_of_ble_eq_true rfl⟩) rfl 9 rfl (by decide) (by decide) (fun H locs hP hS => ?_)
    refine lv_if_ne (tgt := 30) hx hb dX4_setNumber_24 (by decide) (fun c17 => ?_) (fun c17 => ?_)
    · replace hf := it_t hf c17
      refine lv_aload_n hx hb dX4_setNumber_30 rfl (lv_at hl 0 rfl) ?_
      refine va_get (ci := 4) (v := .ref (g 1)) (C := RX4) (T := TX4) (N := 8) hx hb hts iw_X4_setNumber_X4 hown hK hP 0 rfl rfl 0 (by decide) (hts (.fieldLink RX4 10 "BallastTrack" "now" "LBallastTrack$State;") (List.mem_of_getElem? (i := 2) rfl)) (fun _ h9 => h9) rfl dX4_setNumber_31 ?_
      refine va_get (ci := 1) (v := .ref (g (1 + 1))) (C := RX1) (T := TX1) (N := 9) hx hb hts iw_X4_setNumber_X1 hown hK hP 1 rfl rfl 2 (by decide) (hts (.fieldLink RX4 76 "BallastTrack$State" "numbers" "[I") (List.mem_of_getElem? (i := 3) rfl)) (fun _ h9 => h9) rfl dX4_setNumber_34 ?_
      refine lv_iload_n hx hb dX4_setNumber_37 rfl (lv_at hl 1 rfl) ?_
      obtain ⟨hi18, hf⟩ := ix_i hf
      refine va_iald hx hb hK hP 2 0 rfl rfl hi18 dX4_setNumber_38 ?_
      refine lv_topi (fun x19 ex19 => ?_)
      replace hf := nm_i hf ex19
      refine lv_istore_n (lv' := [(3, .int x19), (0, .ref (g 0)), (1, .int p0), (2, .int p1)]) hx hb dX4_setNumber_39 rfl hl (by decide) rfl (fun ls hl => ?_)
      refine lv_aload_n hx hb dX4_setNumber_40 rfl (lv_at hl 1 rfl) ?_
      refine va_get (ci := 4) (v := .ref (g 25)) (C := RX4) (T := TX4) (N := 8) hx hb hts iw_X4_setNumber_X4 hown hK hP 0 rfl rfl 4 (by decide) (hts (.fieldLink RX4 34 "BallastTrack" "history" "LBallastTrack$History;") (List.mem_of_getElem? (i := 4) rfl)) (fun _ h9 => h9) rfl dX4_setNumber_41 ?_
      refine lv_aload_n hx hb dX4_setNumber_44 rfl (lv_at hl 1 rfl) ?_
      refine va_get (ci := 4) (v := .ref (g 1)) (C := RX4) (T := TX4) (N := 8) hx hb hts iw_X4_setNumber_X4 hown hK hP 0 rfl rfl 0 (by decide) (hts (.fieldLink RX4 10 "BallastTrack" "now" "LBallastTrack$State;") (List.mem_of_getElem? (i := 2) rfl)) (fun _ h9 => h9) rfl dX4_setNumber_45 ?_
      obtain ⟨o20, ho20, hf⟩ := bd_i hf
      refine cl_v [2, 3, 4, 5, 6, 7, 8, 1] [0] [wT g, wS cT g 1 u_now, wH cT g 25 o20.1, wS cT g 27 o20.2.1, wS cT g 35 o20.2.2.1, wS cT g 43 o20.2.2.2.1, wS cT g 51 o20.2.2.2.2.1, wS cT g 59 o20.2.2.2.2.2.1, wS cT g 67 o20.2.2.2.2.2.2] hP (va_D_adr hD rfl) hA hS (va_runV (As := [.ref (g 1)]) (rest := []) ⟨hx, hb, hml, hown, hts⟩ (c_X0_save l D cT g 25 1 fu u_history u_history_r0 u_history_r1 u_history_r2 u_history_r3 u_history_r4 u_history_r5 u_now  o20 ho20 _) (cwV 1 hts gX4_setNumber_X0_save rfl rfl rfl (by decide +kernel) ⟨Nat.le_of_ble_eq_true rfl, Nat.le_of_ble_eq_true rfl⟩) ⟨PRE_blind, va_recv hK hP (ci := 0) (q0 := 9) rfl rfl, PRE_ok [2, 3, 4, 5, 6, 7, 8, 1] (by decide) hP (va_D_adr hD rfl) hA hS hK hN hZ⟩ rfl rfl hl.1 rfl (lv_room (Nat.le_of_ble_eq_true rfl)) dX4_setNumber_48 ⟨Nat.le_of_ble_eq_true rfl, Nat.le_of_ble_eq_true rfl⟩) rfl 9 rfl (by decide) (by decide) (fun H locs hP hS => ?_)
      refine lv_aload_n hx hb dX4_setNumber_51 rfl (lv_at hl 1 rfl) ?_
      refine va_get (ci := 4) (v := .ref (g 1)) (C := RX4) (T := TX4) (N := 8) hx hb hts iw_X4_setNumber_X4 hown hK hP 0 rfl rfl 0 (by decide) (hts (.fieldLink RX4 10 "BallastTrack" "now" "LBallastTrack$State;") (List.mem_of_getElem? (i := 2) rfl)) (fun _ h9 => h9) rfl dX4_setNumber_52 ?_
      refine va_get (ci := 1) (v := .ref (g (1 + 1))) (C := RX1) (T := TX1) (N := 9) hx hb hts iw_X4_setNumber_X1 hown hK hP 1 rfl rfl 2 (by decide) (hts (.fieldLink RX4 76 "BallastTrack$State" "numbers" "[I") (List.mem_of_getElem? (i := 3) rfl)) (fun _ h9 => h9) rfl dX4_setNumber_55 ?_
      refine lv_iload_n hx hb dX4_setNumber_58 rfl (lv_at hl 2 rfl) ?_
      refine lv_iload_n hx hb dX4_setNumber_59 rfl (lv_at hl 3 rfl) ?_
      obtain ⟨hi21, hf⟩ := ix_i hf
      refine va_iast hx hb hK hP (va_D_adr hD rfl) hS 2 0 rfl rfl hi21 dX4_setNumber_60 (fun H locs hP _ hS => ?_)
      obtain ⟨u22, eu22⟩ : ∃ z : TS, z = S_nu_ u_now (upd (S_nu u_now) p0.toNatClampNeg p1) := ⟨_, rfl⟩
      replace hf := nm_i hf eu22
      have hP : va_P D vwCl (List.flatten [wT g, wS cT g 1 u22, wH cT g 25 o20.1, wS cT g 27 o20.2.1, wS cT g 35 o20.2.2.1, wS cT g 43 o20.2.2.2.1, wS cT g 51 o20.2.2.2.2.1, wS cT g 59 o20.2.2.2.2.2.1, wS cT g 67 o20.2.2.2.2.2.2]) H := by rw [eu22]; exact hP
      refine lv_iload_n hx hb dX4_setNumber_61 rfl (lv_at hl 0 rfl) ?_
      obtain rfl := Option.some.inj hf
      subst hQ
      exact en_i hx hb hr hP hS hlocks dX4_setNumber_62
    · replace hf := it_f hf (not_not_intro c17)
      refine lv_ldc (v := -100001) hx hb hown (hts (.constant RX4 57 (-100001)) (List.mem_of_getElem? (i := 1) rfl)) dX4_setNumber_27 ?_
      obtain rfl := Option.some.inj hf
      subst hQ
      exact en_i hx hb hr hP hS hlocks dX4_setNumber_29
def f_X4_isLevel (fu : Nat)  (p0 : Int32) : Option (Bool) :=
bd (f_X4_isWithin fu  p0 ((-9999 : Int32)) ((9999 : Int32))) fun (o2 : Bool) =>
some (o2)

abbrev rm_X4_isLevel : Room := { frames := 1, cells := 0, slots := 0, locals := 22 }
set_option maxHeartbeats 4000000 in
set_option maxRecDepth 100000 in
theorem c_X4_isLevel (l : Launch) (D : va_G) (cT : Nat → ClassId) (g : Nat → Nat) (fu : Nat)  (p0 : Int32) (o : Bool) (hf : f_X4_isLevel fu  p0 = some o) (sz : Nat) : Met l yX4_isLevel wsX4_isLevel rm_X4_isLevel (va_Pc [.int p0] (PRE D cT sz (List.flatten []))) (QI D (bI o) (List.flatten []) (va_A (List.flatten []) sz)) 0 0 (va_A (List.flatten []) sz) := by
  refine Met.ofW (cc := cX4_isLevel) (maxL := 1) (ret := (some .boolean)) (by decide) rfl ?_
  intro p e s m args below meth c s₁ B0 hml hv
  obtain ⟨hav, hsz, hP, hK, hD, hN, hZ⟩ := hv
  have hx := B0.exec
  have hb := B0.bytes
  have hr := B0.returns
  have hts := atoms_spec (ws := wsX4_isLevel) B0.pre
  have hown : s.vm.findClass RX4 = some m.cls := findClass_of_methodNamed B0.named
  have hlocks := B0.notSynchronized
  subst hsz
  have hD := hD.self (sz := s.heap.size)
  have hA : ∀ q : Nat, s.heap.size ≤ q → va_A (List.flatten []) s.heap.size q := fun q h => Or.inr h
  generalize va_A (List.flatten []) s.heap.size = A at hD hZ hA ⊢
  have hS : va_S A s.heap s.heap [] := va_S.rf
  have hl := lv_entry ([.int p0]) (n := 1) (Nat.le_of_ble_eq_true rfl)
  rw [hav]
  rw [lg_entry_eq]
  generalize (lg_sl ([.int p0]) ++ List.replicate (1 - (lg_sl ([.int p0])).length) Slot.unset).toArray = ls at hl ⊢
  have hl : lv_has ls 1 [(0, .int p0)] := hl
  rw [← hav]
  generalize hQ : MQ below _ _ _ _ _ _ = Q
  show W p l e rm_X4_isLevel s m args below meth c s.heap [] 0 0 Q (F0 m 0 ls [])
  unfold f_X4_isLevel at hf
  refine lv_iload_n hx hb dX4_isLevel_0 rfl (lv_at hl 0 rfl) ?_
  refine lv_sipush (v := -9999) hx hb dX4_isLevel_1 (by decide) ?_
  refine lv_sipush (v := 9999) hx hb dX4_isLevel_4 (by decide) ?_
  obtain ⟨o2, ho2, hf⟩ := bd_i hf
  refine cl_i [] [] [] hP (va_D_adr hD rfl) hA hS (va_runS (As := [.int p0, .int ((-9999 : Int32)), .int ((9999 : Int32))]) (rest := []) ⟨hx, hb, hml, hown, hts⟩ (c_X4_isWithin l D cT g  fu  p0 ((-9999 : Int32)) ((9999 : Int32)) o2 ho2 _) (va_cwS 3 hts gX4_isLevel_X4_isWithin rfl rfl rfl (by decide +kernel) ⟨Nat.le_of_ble_eq_true rfl, Nat.le_of_ble_eq_true rfl⟩) ⟨PRE_blind, PRE_ok [] (by decide) hP (va_D_adr hD rfl) hA hS hK hN hZ⟩ rfl rfl hl.1 rfl (lv_room (Nat.le_of_ble_eq_true rfl)) dX4_isLevel_7 ⟨Nat.le_of_ble_eq_true rfl, Nat.le_of_ble_eq_true rfl⟩) rfl 0 rfl (by decide) (by decide) (fun H locs hP hS => ?_)
  obtain rfl := Option.some.inj hf
  subst hQ
  exact en_z hx hb hr hP hS hlocks dX4_isLevel_10
theorem iw_X4_setLevel_X1 : ∀ w ∈ u_ws RX1 TX1 9, w ∈ wsX4_setLevel := by decide +kernel
theorem iw_X4_setLevel_X4 : ∀ w ∈ u_ws RX4 TX4 8, w ∈ wsX4_setLevel := by decide +kernel
def f_X4_setLevel (fu : Nat) (u_now : TS) (u_history : TH) (u_history_r0 : TS) (u_history_r1 : TS) (u_history_r2 : TS) (u_history_r3 : TS) (u_history_r4 : TS) (u_history_r5 : TS) (p0 : Int32) (p1 : Int32) : Option (Int32 × TS × TH × TS × TS × TS × TS × TS × TS) :=
bd (f_X1_has fu u_now p0) fun (o9 : Bool) =>
if bI o9 = 0 then (
some ((-100001 : Int32), u_now, u_history, u_history_r0, u_history_r1, u_history_r2, u_history_r3, u_history_r4, u_history_r5)
)
else (
bd (f_X4_isLevel fu  p1) fun (o11 : Bool) =>
if ¬ bI o11 = 0 then (
ix p0 60 <|
nm ((S_lv u_now) p0.toNatClampNeg) fun (x14 : Int32) =>
bd (f_X0_save fu u_history u_history_r0 u_history_r1 u_history_r2 u_history_r3 u_history_r4 u_history_r5 u_now ) fun (o15 : TH × TS × TS × TS × TS × TS × TS) =>
bd (f_X1_putLevel fu u_now p0 p1) fun (o16 : TS) =>
some (x14, o16, o15.1, o15.2.1, o15.2.2.1, o15.2.2.2.1, o15.2.2.2.2.1, o15.2.2.2.2.2.1, o15.2.2.2.2.2.2)
)
else (
some ((-100001 : Int32), u_now, u_history, u_history_r0, u_history_r1, u_history_r2, u_history_r3, u_history_r4, u_history_r5)
)
)

abbrev rm_X4_setLevel : Room := { frames := 3, cells := 0, slots := 0, locals := 102 }
set_option maxHeartbeats 4000000 in
set_option maxRecDepth 100000 in
theorem c_X4_setLevel (l : Launch) (D : va_G) (cT : Nat → ClassId) (g : Nat → Nat) (fu : Nat) (u_now : TS) (u_history : TH) (u_history_r0 : TS) (u_history_r1 : TS) (u_history_r2 : TS) (u_history_r3 : TS) (u_history_r4 : TS) (u_history_r5 : TS) (p0 : Int32) (p1 : Int32) (o : Int32 × TS × TH × TS × TS × TS × TS × TS × TS) (hf : f_X4_setLevel fu u_now u_history u_history_r0 u_history_r1 u_history_r2 u_history_r3 u_history_r4 u_history_r5 p0 p1 = some o) (sz : Nat) : Met l yX4_setLevel wsX4_setLevel rm_X4_setLevel (va_Pc [.ref (g 0), .int p0, .int p1] (PRE D cT sz (List.flatten [wT g, wS cT g 1 u_now, wH cT g 25 u_history, wS cT g 27 u_history_r0, wS cT g 35 u_history_r1, wS cT g 43 u_history_r2, wS cT g 51 u_history_r3, wS cT g 59 u_history_r4, wS cT g 67 u_history_r5]))) (QI D o.1 (List.flatten [wT g, wS cT g 1 o.2.1, wH cT g 25 o.2.2.1, wS cT g 27 o.2.2.2.1, wS cT g 35 o.2.2.2.2.1, wS cT g 43 o.2.2.2.2.2.1, wS cT g 51 o.2.2.2.2.2.2.1, wS cT g 59 o.2.2.2.2.2.2.2.1, wS cT g 67 o.2.2.2.2.2.2.2.2]) (va_A (List.flatten [wT g, wS cT g 1 u_now, wH cT g 25 u_history, wS cT g 27 u_history_r0, wS cT g 35 u_history_r1, wS cT g 43 u_history_r2, wS cT g 51 u_history_r3, wS cT g 59 u_history_r4, wS cT g 67 u_history_r5]) sz)) 0 0 (va_A (List.flatten [wT g, wS cT g 1 u_now, wH cT g 25 u_history, wS cT g 27 u_history_r0, wS cT g 35 u_history_r1, wS cT g 43 u_history_r2, wS cT g 51 u_history_r3, wS cT g 59 u_history_r4, wS cT g 67 u_history_r5]) sz) := by
  refine Met.ofW (cc := cX4_setLevel) (maxL := 4) (ret := (some .int)) (by decide) rfl ?_
  intro p e s m args below meth c s₁ B0 hml hv
  obtain ⟨hav, hsz, hP, hK, hD, hN, hZ⟩ := hv
  have hx := B0.exec
  have hb := B0.bytes
  have hr := B0.returns
  have hts := atoms_spec (ws := wsX4_setLevel) B0.pre
  have hown : s.vm.findClass RX4 = some m.cls := findClass_of_methodNamed B0.named
  have hlocks := B0.notSynchronized
  subst hsz
  have hD := hD.self (sz := s.heap.size)
  have hA : ∀ q : Nat, s.heap.size ≤ q → va_A (List.flatten [wT g, wS cT g 1 u_now, wH cT g 25 u_history, wS cT g 27 u_history_r0, wS cT g 35 u_history_r1, wS cT g 43 u_history_r2, wS cT g 51 u_history_r3, wS cT g 59 u_history_r4, wS cT g 67 u_history_r5]) s.heap.size q := fun q h => Or.inr h
  generalize va_A (List.flatten [wT g, wS cT g 1 u_now, wH cT g 25 u_history, wS cT g 27 u_history_r0, wS cT g 35 u_history_r1, wS cT g 43 u_history_r2, wS cT g 51 u_history_r3, wS cT g 59 u_history_r4, wS cT g 67 u_history_r5]) s.heap.size = A at hD hZ hA ⊢
  have hS : va_S A s.heap s.heap [] := va_S.rf
  have hl := lv_entry ([.ref (g 0), .int p0, .int p1]) (n := 4) (Nat.le_of_ble_eq_true rfl)
  rw [hav]
  rw [lg_entry_eq]
  generalize (lg_sl ([.ref (g 0), .int p0, .int p1]) ++ List.replicate (4 - (lg_sl ([.ref (g 0), .int p0, .int p1])).length) Slot.unset).toArray = ls at hl ⊢
  have hl : lv_has ls 4 [(0, .ref (g 0)), (1, .int p0), (2, .int p1)] := hl
  rw [← hav]
  generalize hQ : MQ below _ _ _ _ _ _ = Q
  show W p l e rm_X4_setLevel s m args below meth c s.heap [] 0 0 Q (F0 m 0 ls [])
  unfold f_X4_setLevel at hf
  refine lv_aload_n hx hb dX4_setLevel_0 rfl (lv_at hl 0 rfl) ?_
  refine va_get (ci := 4) (v := .ref (g 1)) (C := RX4) (T := TX4) (N := 8) hx hb hts iw_X4_setLevel_X4 hown hK hP 0 rfl rfl 0 (by decide) (hts (.fieldLink RX4 10 "BallastTrack" "now" "LBallastTrack$State;") (List.mem_of_getElem? (i := 1) rfl)) (fun _ h9 => h9) rfl dX4_setLevel_1 ?_
  refine lv_iload_n hx hb dX4_setLevel_4 rfl (lv_at hl 1 rfl) ?_
  obtain ⟨o9, ho9, hf⟩ := bd_i hf
  refine cl_i [1] [0, 2, 3, 4, 5, 6, 7, 8] [wT g, wS cT g 1 u_now, wH cT g 25 u_history, wS cT g 27 u_history_r0, wS cT g 35 u_history_r1, wS cT g 43 u_history_r2, wS cT g 51 u_history_r3, wS cT g 59 u_history_r4, wS cT g 67 u_history_r5] hP (va_D_adr hD rfl) hA hS (va_runV (As := [.int p0]) (rest := []) ⟨hx, hb, hml, hown, hts⟩ (c_X1_has l D cT g 1 fu u_now p0 o9 ho9 _) (cwV 1 hts gX4_setLevel_X1_has rfl rfl rfl (by decide +kernel) ⟨Nat.le_of_ble_eq_true rfl, Nat.le_of_ble_eq_true rfl⟩) ⟨PRE_blind, va_recv hK hP (ci := 1) (q0 := 1) rfl rfl, PRE_ok [1] (by decide) hP (va_D_adr hD rfl) hA hS hK hN hZ⟩ rfl rfl hl.1 rfl (lv_room (Nat.le_of_ble_eq_true rfl)) dX4_setLevel_5 ⟨Nat.le_of_ble_eq_true rfl, Nat.le_of_ble_eq_true rfl⟩) rfl 9 rfl (by decide) (by decide) (fun H locs hP hS => ?_)
  refine lv_if_eq (tgt := 18) hx hb dX4_setLevel_8 (by decide) (fun c10 => ?_) (fun c10 => ?_)
  · replace hf := it_t hf c10
    refine lv_ldc (v := -100001) hx hb hown (hts (.constant RX4 57 (-100001)) (List.mem_of_getElem? (i := 2) rfl)) dX4_setLevel_18 ?_
    obtain rfl := Option.some.inj hf
    subst hQ
    exact en_i hx hb hr hP hS hlocks dX4_setLevel_20
  · replace hf := it_f hf c10
    refine lv_iload_n hx hb dX4_setLevel_11 rfl (lv_at hl 2 rfl) ?_
    obtain ⟨o11, ho11, hf⟩ := bd_i hf
    refine cl_i [] [0, 1, 2, 3, 4, 5, 6, 7, 8] [wT g, wS cT g 1 u_now, wH cT g 25 u_history, wS cT g 27 u_history_r0, wS cT g 35 u_history_r1, wS cT g 43 u_history_r2, wS cT g 51 u_history_r3, wS cT g 59 u_history_r4, wS cT g 67 u_history_r5] hP (va_D_adr hD rfl) hA hS (va_runS (As := [.int p1]) (rest := []) ⟨hx, hb, hml, hown, hts⟩ (c_X4_isLevel l D cT g  fu  p1 o11 ho11 _) (va_cwS 1 hts gX4_setLevel_X4_isLevel rfl rfl rfl (by decide +kernel) ⟨Nat.le_of_ble_eq_true rfl, Nat.le_of_ble_eq_true rfl⟩) ⟨PRE_blind, PRE_ok [] (by decide) hP (va_D_adr hD rfl) hA hS hK hN hZ⟩ rfl rfl hl.1 rfl (lv_room (Nat.le_of_ble_eq_true rfl)) dX4_setLevel_12 ⟨Nat.le_of_ble_eq_true rfl, Nat.le_of_ble_eq_true rfl⟩) rfl 9 rfl (by decide) (by decide) (fun H locs hP hS => ?_)
    refine lv_if_ne (tgt := 21) hx hb dX4_setLevel_15 (by decide) (fun c12 => ?_) (fun c12 => ?_)
    · replace hf := it_t hf c12
      refine lv_aload_n hx hb dX4_setLevel_21 rfl (lv_at hl 0 rfl) ?_
      refine va_get (ci := 4) (v := .ref (g 1)) (C := RX4) (T := TX4) (N := 8) hx hb hts iw_X4_setLevel_X4 hown hK hP 0 rfl rfl 0 (by decide) (hts (.fieldLink RX4 10 "BallastTrack" "now" "LBallastTrack$State;") (List.mem_of_getElem? (i := 1) rfl)) (fun _ h9 => h9) rfl dX4_setLevel_22 ?_
      refine va_get (ci := 1) (v := .ref (g (1 + 2))) (C := RX1) (T := TX1) (N := 9) hx hb hts iw_X4_setLevel_X1 hown hK hP 1 rfl rfl 3 (by decide) (hts (.fieldLink RX4 87 "BallastTrack$State" "levels" "[I") (List.mem_of_getElem? (i := 3) rfl)) (fun _ h9 => h9) rfl dX4_setLevel_25 ?_
      refine lv_iload_n hx hb dX4_setLevel_28 rfl (lv_at hl 1 rfl) ?_
      obtain ⟨hi13, hf⟩ := ix_i hf
      refine va_iald hx hb hK hP 3 0 rfl rfl hi13 dX4_setLevel_29 ?_
      refine lv_topi (fun x14 ex14 => ?_)
      replace hf := nm_i hf ex14
      refine lv_istore_n (lv' := [(3, .int x14), (0, .ref (g 0)), (1, .int p0), (2, .int p1)]) hx hb dX4_setLevel_30 rfl hl (by decide) rfl (fun ls hl => ?_)
      refine lv_aload_n hx hb dX4_setLevel_31 rfl (lv_at hl 1 rfl) ?_
      refine va_get (ci := 4) (v := .ref (g 25)) (C := RX4) (T := TX4) (N := 8) hx hb hts iw_X4_setLevel_X4 hown hK hP 0 rfl rfl 4 (by decide) (hts (.fieldLink RX4 34 "BallastTrack" "history" "LBallastTrack$History;") (List.mem_of_getElem? (i := 4) rfl)) (fun _ h9 => h9) rfl dX4_setLevel_32 ?_
      refine lv_aload_n hx hb dX4_setLevel_35 rfl (lv_at hl 1 rfl) ?_
      refine va_get (ci := 4) (v := .ref (g 1)) (C := RX4) (T := TX4) (N := 8) hx hb hts iw_X4_setLevel_X4 hown hK hP 0 rfl rfl 0 (by decide) (hts (.fieldLink RX4 10 "BallastTrack" "now" "LBallastTrack$State;") (List.mem_of_getElem? (i := 1) rfl)) (fun _ h9 => h9) rfl dX4_setLevel_36 ?_
      obtain ⟨o15, ho15, hf⟩ := bd_i hf
      refine cl_v [2, 3, 4, 5, 6, 7, 8, 1] [0] [wT g, wS cT g 1 u_now, wH cT g 25 o15.1, wS cT g 27 o15.2.1, wS cT g 35 o15.2.2.1, wS cT g 43 o15.2.2.2.1, wS cT g 51 o15.2.2.2.2.1, wS cT g 59 o15.2.2.2.2.2.1, wS cT g 67 o15.2.2.2.2.2.2] hP (va_D_adr hD rfl) hA hS (va_runV (As := [.ref (g 1)]) (rest := []) ⟨hx, hb, hml, hown, hts⟩ (c_X0_save l D cT g 25 1 fu u_history u_history_r0 u_history_r1 u_history_r2 u_history_r3 u_history_r4 u_history_r5 u_now  o15 ho15 _) (cwV 1 hts gX4_setLevel_X0_save rfl rfl rfl (by decide +kernel) ⟨Nat.le_of_ble_eq_true rfl, Nat.le_of_ble_eq_true rfl⟩) ⟨PRE_blind, va_recv hK hP (ci := 0) (q0 := 9) rfl rfl, PRE_ok [2, 3, 4, 5, 6, 7, 8, 1] (by decide) hP (va_D_adr hD rfl) hA hS hK hN hZ⟩ rfl rfl hl.1 rfl (lv_room (Nat.le_of_ble_eq_true rfl)) dX4_setLevel_39 ⟨Nat.le_of_ble_eq_true rfl, Nat.le_of_ble_eq_true rfl⟩) rfl 9 rfl (by decide) (by decide) (fun H locs hP hS => ?_)
      refine lv_aload_n hx hb dX4_setLevel_42 rfl (lv_at hl 1 rfl) ?_
      refine va_get (ci := 4) (v := .ref (g 1)) (C := RX4) (T := TX4) (N := 8) hx hb hts iw_X4_setLevel_X4 hown hK hP 0 rfl rfl 0 (by decide) (hts (.fieldLink RX4 10 "BallastTrack" "now" "LBallastTrack$State;") (List.mem_of_getElem? (i := 1) rfl)) (fun _ h9 => h9) rfl dX4_setLevel_43 ?_
      refine lv_iload_n hx hb dX4_setLevel_46 rfl (lv_at hl 2 rfl) ?_
      refine lv_iload_n hx hb dX4_setLevel_47 rfl (lv_at hl 3 rfl) ?_
      obtain ⟨o16, ho16, hf⟩ := bd_i hf
      refine cl_v [1] [0, 2, 3, 4, 5, 6, 7, 8] [wT g, wS cT g 1 o16, wH cT g 25 o15.1, wS cT g 27 o15.2.1, wS cT g 35 o15.2.2.1, wS cT g 43 o15.2.2.2.1, wS cT g 51 o15.2.2.2.2.1, wS cT g 59 o15.2.2.2.2.2.1, wS cT g 67 o15.2.2.2.2.2.2] hP (va_D_adr hD rfl) hA hS (va_runV (As := [.int p0, .int p1]) (rest := []) ⟨hx, hb, hml, hown, hts⟩ (c_X1_putLevel l D cT g 1 fu u_now p0 p1 o16 ho16 _) (cwV 2 hts gX4_setLevel_X1_putLevel rfl rfl rfl (by decide +kernel) ⟨Nat.le_of_ble_eq_true rfl, Nat.le_of_ble_eq_true rfl⟩) ⟨PRE_blind, va_recv hK hP (ci := 1) (q0 := 1) rfl rfl, PRE_ok [1] (by decide) hP (va_D_adr hD rfl) hA hS hK hN hZ⟩ rfl rfl hl.1 rfl (lv_room (Nat.le_of_ble_eq_true rfl)) dX4_setLevel_48 ⟨Nat.le_of_ble_eq_true rfl, Nat.le_of_ble_eq_true rfl⟩) rfl 9 rfl (by decide) (by decide) (fun H locs hP hS => ?_)
      refine lv_iload_n hx hb dX4_setLevel_51 rfl (lv_at hl 0 rfl) ?_
      obtain rfl := Option.some.inj hf
      subst hQ
      exact en_i hx hb hr hP hS hlocks dX4_setLevel_52
    · replace hf := it_f hf (not_not_intro c12)
      refine lv_ldc (v := -100001) hx hb hown (hts (.constant RX4 57 (-100001)) (List.mem_of_getElem? (i := 2) rfl)) dX4_setLevel_18 ?_
      obtain rfl := Option.some.inj hf
      subst hQ
      exact en_i hx hb hr hP hS hlocks dX4_setLevel_20
theorem iw_X4_appendCharacter_X3 : ∀ w ∈ u_ws RX3 TX3 4, w ∈ wsX4_appendCharacter := by decide +kernel
theorem iw_X4_appendCharacter_X4 : ∀ w ∈ u_ws RX4 TX4 8, w ∈ wsX4_appendCharacter := by decide +kernel
def f_X4_appendCharacter (fu : Nat) (u_text : TX) (p0 : Int32) : Option (Int32 × TX) :=
bd (f_X4_isWithin fu  p0 ((0 : Int32)) ((255 : Int32))) fun (o12 : Bool) =>
if ¬ bI o12 = 0 then (
nm (X_ln u_text) fun (x14 : Int32) =>
if x14 < (100 : Int32) then (
nm (X_ln u_text) fun (x16 : Int32) =>
ix x16 100 <|
nm (X_ch_ u_text (upd (X_ch u_text) x16.toNatClampNeg p0)) fun (u18 : TX) =>
nm (X_ln u18) fun (x19 : Int32) =>
nm (x19 + (1 : Int32)) fun (x20 : Int32) =>
nm (X_ln_ u18 x20) fun (u21 : TX) =>
nm (X_ln u21) fun (x22 : Int32) =>
some (x22, u21)
)
else (
some ((-100003 : Int32), u_text)
)
)
else (
some ((-100001 : Int32), u_text)
)

abbrev rm_X4_appendCharacter : Room := { frames := 1, cells := 0, slots := 0, locals := 22 }
set_option maxHeartbeats 4000000 in
set_option maxRecDepth 100000 in
theorem c_X4_appendCharacter (l : Launch) (D : va_G) (cT : Nat → ClassId) (g : Nat → Nat) (fu : Nat) (u_text : TX) (p0 : Int32) (o : Int32 × TX) (hf : f_X4_appendCharacter fu u_text p0 = some o) (sz : Nat) : Met l yX4_appendCharacter wsX4_appendCharacter rm_X4_appendCharacter (va_Pc [.ref (g 0), .int p0] (PRE D cT sz (List.flatten [wT g, wX cT g 75 u_text]))) (QI D o.1 (List.flatten [wT g, wX cT g 75 o.2]) (va_A (List.flatten [wT g, wX cT g 75 u_text]) sz)) 0 0 (va_A (List.flatten [wT g, wX cT g 75 u_text]) sz) := by
  refine Met.ofW (cc := cX4_appendCharacter) (maxL := 2) (ret := (some .int)) (by decide) rfl ?_
  intro p e s m args below meth c s₁ B0 hml hv
  obtain ⟨hav, hsz, hP, hK, hD, hN, hZ⟩ := hv
  have hx := B0.exec
  have hb := B0.bytes
  have hr := B0.returns
  have hts := atoms_spec (ws := wsX4_appendCharacter) B0.pre
  have hown : s.vm.findClass RX4 = some m.cls := findClass_of_methodNamed B0.named
  have hlocks := B0.notSynchronized
  subst hsz
  have hD := hD.self (sz := s.heap.size)
  have hA : ∀ q : Nat, s.heap.size ≤ q → va_A (List.flatten [wT g, wX cT g 75 u_text]) s.heap.size q := fun q h => Or.inr h
  generalize va_A (List.flatten [wT g, wX cT g 75 u_text]) s.heap.size = A at hD hZ hA ⊢
  have hS : va_S A s.heap s.heap [] := va_S.rf
  have hl := lv_entry ([.ref (g 0), .int p0]) (n := 2) (Nat.le_of_ble_eq_true rfl)
  rw [hav]
  rw [lg_entry_eq]
  generalize (lg_sl ([.ref (g 0), .int p0]) ++ List.replicate (2 - (lg_sl ([.ref (g 0), .int p0])).length) Slot.unset).toArray = ls at hl ⊢
  have hl : lv_has ls 2 [(0, .ref (g 0)), (1, .int p0)] := hl
  rw [← hav]
  generalize hQ : MQ below _ _ _ _ _ _ = Q
  show W p l e rm_X4_appendCharacter s m args below meth c s.heap [] 0 0 Q (F0 m 0 ls [])
  unfold f_X4_appendCharacter at hf
  refine lv_iload_n hx hb dX4_appendCharacter_0 rfl (lv_at hl 1 rfl) ?_
  refine lv_iconst (v := 0) hx hb dX4_appendCharacter_1 (by decide) ?_
  refine lv_sipush (v := 255) hx hb dX4_appendCharacter_2 (by decide) ?_
  obtain ⟨o12, ho12, hf⟩ := bd_i hf
  refine cl_i [] [0, 1] [wT g, wX cT g 75 u_text] hP (va_D_adr hD rfl) hA hS (va_runS (As := [.int p0, .int ((0 : Int32)), .int ((255 : Int32))]) (rest := []) ⟨hx, hb, hml, hown, hts⟩ (c_X4_isWithin l D cT g  fu  p0 ((0 : Int32)) ((255 : Int32)) o12 ho12 _) (va_cwS 3 hts gX4_appendCharacter_X4_isWithin rfl rfl rfl (by decide +kernel) ⟨Nat.le_of_ble_eq_true rfl, Nat.le_of_ble_eq_true rfl⟩) ⟨PRE_blind, PRE_ok [] (by decide) hP (va_D_adr hD rfl) hA hS hK hN hZ⟩ rfl rfl hl.1 rfl (lv_room (Nat.le_of_ble_eq_true rfl)) dX4_appendCharacter_5 ⟨Nat.le_of_ble_eq_true rfl, Nat.le_of_ble_eq_true rfl⟩) rfl 2 rfl (by decide) (by decide) (fun H locs hP hS => ?_)
  refine lv_if_ne (tgt := 14) hx hb dX4_appendCharacter_8 (by decide) (fun c13 => ?_) (fun c13 => ?_)
  · replace hf := it_t hf c13
    refine lv_aload_n hx hb dX4_appendCharacter_14 rfl (lv_at hl 0 rfl) ?_
    refine va_get (ci := 4) (v := .ref (g 75)) (C := RX4) (T := TX4) (N := 8) hx hb hts iw_X4_appendCharacter_X4 hown hK hP 0 rfl rfl 5 (by decide) (hts (.fieldLink RX4 41 "BallastTrack" "text" "LBallastTrack$Text;") (List.mem_of_getElem? (i := 2) rfl)) (fun _ h9 => h9) rfl dX4_appendCharacter_15 ?_
    refine va_get (ci := 3) (v := .int (X_ln u_text)) (C := RX3) (T := TX3) (N := 4) hx hb hts iw_X4_appendCharacter_X3 hown hK hP 1 rfl rfl 1 (by decide) (hts (.fieldLink RX4 94 "BallastTrack$Text" "length" "I") (List.mem_of_getElem? (i := 3) rfl)) (fun _ h9 => h9) rfl dX4_appendCharacter_18 ?_
    refine lv_topi (fun x14 ex14 => ?_)
    replace hf := nm_i hf ex14
    refine lv_bipush (v := 100) hx hb dX4_appendCharacter_21 (by decide) ?_
    refine lv_icmp_lt (tgt := 29) hx hb dX4_appendCharacter_23 (by decide) (fun c15 => ?_) (fun c15 => ?_)
    · replace hf := it_t hf c15
      refine lv_aload_n hx hb dX4_appendCharacter_29 rfl (lv_at hl 0 rfl) ?_
      refine va_get (ci := 4) (v := .ref (g 75)) (C := RX4) (T := TX4) (N := 8) hx hb hts iw_X4_appendCharacter_X4 hown hK hP 0 rfl rfl 5 (by decide) (hts (.fieldLink RX4 41 "BallastTrack" "text" "LBallastTrack$Text;") (List.mem_of_getElem? (i := 2) rfl)) (fun _ h9 => h9) rfl dX4_appendCharacter_30 ?_
      refine va_get (ci := 3) (v := .ref (g (75 + 1))) (C := RX3) (T := TX3) (N := 4) hx hb hts iw_X4_appendCharacter_X3 hown hK hP 1 rfl rfl 0 (by decide) (hts (.fieldLink RX4 98 "BallastTrack$Text" "characters" "[I") (List.mem_of_getElem? (i := 5) rfl)) (fun _ h9 => h9) rfl dX4_appendCharacter_33 ?_
      refine lv_aload_n hx hb dX4_appendCharacter_36 rfl (lv_at hl 0 rfl) ?_
      refine va_get (ci := 4) (v := .ref (g 75)) (C := RX4) (T := TX4) (N := 8) hx hb hts iw_X4_appendCharacter_X4 hown hK hP 0 rfl rfl 5 (by decide) (hts (.fieldLink RX4 41 "BallastTrack" "text" "LBallastTrack$Text;") (List.mem_of_getElem? (i := 2) rfl)) (fun _ h9 => h9) rfl dX4_appendCharacter_37 ?_
      refine va_get (ci := 3) (v := .int (X_ln u_text)) (C := RX3) (T := TX3) (N := 4) hx hb hts iw_X4_appendCharacter_X3 hown hK hP 1 rfl rfl 1 (by decide) (hts (.fieldLink RX4 94 "BallastTrack$Text" "length" "I") (List.mem_of_getElem? (i := 3) rfl)) (fun _ h9 => h9) rfl dX4_appendCharacter_40 ?_
      refine lv_topi (fun x16 ex16 => ?_)
      replace hf := nm_i hf ex16
      refine lv_iload_n hx hb dX4_appendCharacter_43 rfl (lv_at hl 1 rfl) ?_
      obtain ⟨hi17, hf⟩ := ix_i hf
      refine va_iast hx hb hK hP (va_D_adr hD rfl) hS 2 0 rfl rfl hi17 dX4_appendCharacter_44 (fun H locs hP _ hS => ?_)
      obtain ⟨u18, eu18⟩ : ∃ z : TX, z = X_ch_ u_text (upd (X_ch u_text) x16.toNatClampNeg p0) := ⟨_, rfl⟩
      replace hf := nm_i hf eu18
      have hP : va_P D vwCl (List.flatten [wT g, wX cT g 75 u18]) H := by rw [eu18]; exact hP
      refine lv_aload_n hx hb dX4_appendCharacter_45 rfl (lv_at hl 0 rfl) ?_
      refine va_get (ci := 4) (v := .ref (g 75)) (C := RX4) (T := TX4) (N := 8) hx hb hts iw_X4_appendCharacter_X4 hown hK hP 0 rfl rfl 5 (by decide) (hts (.fieldLink RX4 41 "BallastTrack" "text" "LBallastTrack$Text;") (List.mem_of_getElem? (i := 2) rfl)) (fun _ h9 => h9) rfl dX4_appendCharacter_46 ?_
      refine lv_dup hx hb dX4_appendCharacter_49 rfl ?_
      refine va_get (ci := 3) (v := .int (X_ln u18)) (C := RX3) (T := TX3) (N := 4) hx hb hts iw_X4_appendCharacter_X3 hown hK hP 1 rfl rfl 1 (by decide) (hts (.fieldLink RX4 94 "BallastTrack$Text" "length" "I") (List.mem_of_getElem? (i := 3) rfl)) (fun _ h9 => h9) rfl dX4_appendCharacter_50 ?_
      refine lv_topi (fun x19 ex19 => ?_)
      replace hf := nm_i hf ex19
      refine lv_iconst (v := 1) hx hb dX4_appendCharacter_53 (by decide) ?_
      refine lv_iadd hx hb dX4_appendCharacter_54 ?_
      refine lv_topi (fun x20 ex20 => ?_)
      replace hf := nm_i hf ex20
      refine va_put (ci := 3) (v := .int x20) (ty := .int) (C := RX3) (T := TX3) (N := 4) hx hb hts iw_X4_appendCharacter_X3 tyX3 tyX3_ok nmX3 hown hK hP (va_D_adr hD rfl) hS 1 rfl rfl 1 (by decide) (hts (.fieldLink RX4 94 "BallastTrack$Text" "length" "I") (List.mem_of_getElem? (i := 3) rfl)) (fun _ h9 => h9) rfl (by decide +kernel) rfl rfl (Nat.le_of_ble_eq_true rfl) dX4_appendCharacter_55 (fun H locs hP _ hS => ?_)
      obtain ⟨u21, eu21⟩ : ∃ z : TX, z = X_ln_ u18 x20 := ⟨_, rfl⟩
      replace hf := nm_i hf eu21
      have hP : va_P D vwCl (List.flatten [wT g, wX cT g 75 u21]) H := by rw [eu21]; exact hP
      refine lv_aload_n hx hb dX4_appendCharacter_58 rfl (lv_at hl 0 rfl) ?_
      refine va_get (ci := 4) (v := .ref (g 75)) (C := RX4) (T := TX4) (N := 8) hx hb hts iw_X4_appendCharacter_X4 hown hK hP 0 rfl rfl 5 (by decide) (hts (.fieldLink RX4 41 "BallastTrack" "text" "LBallastTrack$Text;") (List.mem_of_getElem? (i := 2) rfl)) (fun _ h9 => h9) rfl dX4_appendCharacter_59 ?_
      refine va_get (ci := 3) (v := .int (X_ln u21)) (C := RX3) (T := TX3) (N := 4) hx hb hts iw_X4_appendCharacter_X3 hown hK hP 1 rfl rfl 1 (by decide) (hts (.fieldLink RX4 94 "BallastTrack$Text" "length" "I") (List.mem_of_getElem? (i := 3) rfl)) (fun _ h9 => h9) rfl dX4_appendCharacter_62 ?_
      refine lv_topi (fun x22 ex22 => ?_)
      replace hf := nm_i hf ex22
      obtain rfl := Option.some.inj hf
      subst hQ
      exact en_i hx hb hr hP hS hlocks dX4_appendCharacter_65
    · replace hf := it_f hf c15
      refine lv_ldc (v := -100003) hx hb hown (hts (.constant RX4 97 (-100003)) (List.mem_of_getElem? (i := 4) rfl)) dX4_appendCharacter_26 ?_
      obtain rfl := Option.some.inj hf
      subst hQ
      exact en_i hx hb hr hP hS hlocks dX4_appendCharacter_28
  · replace hf := it_f hf (not_not_intro c13)
    refine lv_ldc (v := -100001) hx hb hown (hts (.constant RX4 57 (-100001)) (List.mem_of_getElem? (i := 1) rfl)) dX4_appendCharacter_11 ?_
    obtain rfl := Option.some.inj hf
    subst hQ
    exact en_i hx hb hr hP hS hlocks dX4_appendCharacter_13
theorem iw_X4_clearText_X3 : ∀ w ∈ u_ws RX3 TX3 4, w ∈ wsX4_clearText := by decide +kernel
theorem iw_X4_clearText_X4 : ∀ w ∈ u_ws RX4 TX4 8, w ∈ wsX4_clearText := by decide +kernel
def f_X4_clearText (fu : Nat) (u_text : TX)  : Option (Int32 × TX) :=
nm (X_ln u_text) fun (x3 : Int32) =>
nm (X_ln_ u_text ((0 : Int32))) fun (u4 : TX) =>
some (x3, u4)

abbrev rm_X4_clearText : Room := { frames := 0, cells := 0, slots := 0, locals := 0 }
set_option maxHeartbeats 4000000 in
set_option maxRecDepth 100000 in
theorem c_X4_clearText (l : Launch) (D : va_G) (cT : Nat → ClassId) (g : Nat → Nat) (fu : Nat) (u_text : TX)  (o : Int32 × TX) (hf : f_X4_clearText fu u_text  = some o) (sz : Nat) : Met l yX4_clearText wsX4_clearText rm_X4_clearText (va_Pc [.ref (g 0)] (PRE D cT sz (List.flatten [wT g, wX cT g 75 u_text]))) (QI D o.1 (List.flatten [wT g, wX cT g 75 o.2]) (va_A (List.flatten [wT g, wX cT g 75 u_text]) sz)) 0 0 (va_A (List.flatten [wT g, wX cT g 75 u_text]) sz) := by
  refine Met.ofW (cc := cX4_clearText) (maxL := 2) (ret := (some .int)) (by decide) rfl ?_
  intro p e s m args below meth c s₁ B0 hml hv
  obtain ⟨hav, hsz, hP, hK, hD, hN, hZ⟩ := hv
  have hx := B0.exec
  have hb := B0.bytes
  have hr := B0.returns
  have hts := atoms_spec (ws := wsX4_clearText) B0.pre
  have hown : s.vm.findClass RX4 = some m.cls := findClass_of_methodNamed B0.named
  have hlocks := B0.notSynchronized
  subst hsz
  have hD := hD.self (sz := s.heap.size)
  have hA : ∀ q : Nat, s.heap.size ≤ q → va_A (List.flatten [wT g, wX cT g 75 u_text]) s.heap.size q := fun q h => Or.inr h
  generalize va_A (List.flatten [wT g, wX cT g 75 u_text]) s.heap.size = A at hD hZ hA ⊢
  have hS : va_S A s.heap s.heap [] := va_S.rf
  have hl := lv_entry ([.ref (g 0)]) (n := 2) (Nat.le_of_ble_eq_true rfl)
  rw [hav]
  rw [lg_entry_eq]
  generalize (lg_sl ([.ref (g 0)]) ++ List.replicate (2 - (lg_sl ([.ref (g 0)])).length) Slot.unset).toArray = ls at hl ⊢
  have hl : lv_has ls 2 [(0, .ref (g 0))] := hl
  rw [← hav]
  generalize hQ : MQ below _ _ _ _ _ _ = Q
  show W p l e rm_X4_clearText s m args below meth c s.heap [] 0 0 Q (F0 m 0 ls [])
  unfold f_X4_clearText at hf
  refine lv_aload_n hx hb dX4_clearText_0 rfl (lv_at hl 0 rfl) ?_
  refine va_get (ci := 4) (v := .ref (g 75)) (C := RX4) (T := TX4) (N := 8) hx hb hts iw_X4_clearText_X4 hown hK hP 0 rfl rfl 5 (by decide) (hts (.fieldLink RX4 41 "BallastTrack" "text" "LBallastTrack$Text;") (List.mem_of_getElem? (i := 1) rfl)) (fun _ h9 => h9) rfl dX4_clearText_1 ?_
  refine va_get (ci := 3) (v := .int (X_ln u_text)) (C := RX3) (T := TX3) (N := 4) hx hb hts iw_X4_clearText_X3 hown hK hP 1 rfl rfl 1 (by decide) (hts (.fieldLink RX4 94 "BallastTrack$Text" "length" "I") (List.mem_of_getElem? (i := 2) rfl)) (fun _ h9 => h9) rfl dX4_clearText_4 ?_
  refine lv_topi (fun x3 ex3 => ?_)
  replace hf := nm_i hf ex3
  refine lv_istore_n (lv' := [(1, .int x3), (0, .ref (g 0))]) hx hb dX4_clearText_7 rfl hl (by decide) rfl (fun ls hl => ?_)
  refine lv_aload_n hx hb dX4_clearText_8 rfl (lv_at hl 1 rfl) ?_
  refine va_get (ci := 4) (v := .ref (g 75)) (C := RX4) (T := TX4) (N := 8) hx hb hts iw_X4_clearText_X4 hown hK hP 0 rfl rfl 5 (by decide) (hts (.fieldLink RX4 41 "BallastTrack" "text" "LBallastTrack$Text;") (List.mem_of_getElem? (i := 1) rfl)) (fun _ h9 => h9) rfl dX4_clearText_9 ?_
  refine lv_iconst (v := 0) hx hb dX4_clearText_12 (by decide) ?_
  refine va_put (ci := 3) (v := .int ((0 : Int32))) (ty := .int) (C := RX3) (T := TX3) (N := 4) hx hb hts iw_X4_clearText_X3 tyX3 tyX3_ok nmX3 hown hK hP (va_D_adr hD rfl) hS 1 rfl rfl 1 (by decide) (hts (.fieldLink RX4 94 "BallastTrack$Text" "length" "I") (List.mem_of_getElem? (i := 2) rfl)) (fun _ h9 => h9) rfl (by decide +kernel) rfl rfl (Nat.le_of_ble_eq_true rfl) dX4_clearText_13 (fun H locs hP _ hS => ?_)
  obtain ⟨u4, eu4⟩ : ∃ z : TX, z = X_ln_ u_text ((0 : Int32)) := ⟨_, rfl⟩
  replace hf := nm_i hf eu4
  have hP : va_P D vwCl (List.flatten [wT g, wX cT g 75 u4]) H := by rw [eu4]; exact hP
  refine lv_iload_n hx hb dX4_clearText_16 rfl (lv_at hl 0 rfl) ?_
  obtain rfl := Option.some.inj hf
  subst hQ
  exact en_i hx hb hr hP hS hlocks dX4_clearText_17
theorem iw_X4_load_X3 : ∀ w ∈ u_ws RX3 TX3 4, w ∈ wsX4_load := by decide +kernel
theorem iw_X4_load_X4 : ∀ w ∈ u_ws RX4 TX4 8, w ∈ wsX4_load := by decide +kernel
def f_X4_load (fu : Nat) (u_now : TS) (u_trial : TS) (u_history : TH) (u_history_r0 : TS) (u_history_r1 : TS) (u_history_r2 : TS) (u_history_r3 : TS) (u_history_r4 : TS) (u_history_r5 : TS) (u_text : TX)  : Option (Int32 × TS × TS × TH × TS × TS × TS × TS × TS × TS × TX) :=
bd (f_X1_copyFrom fu u_trial u_now ) fun (o9 : TS) =>
bd (f_X3_readInto fu u_text o9 ) fun (o10 : Int32 × TX × TS) =>
if 0 ≤ o10.1 then (
bd (f_X0_save fu u_history u_history_r0 u_history_r1 u_history_r2 u_history_r3 u_history_r4 u_history_r5 u_now ) fun (o12 : TH × TS × TS × TS × TS × TS × TS) =>
bd (f_X1_copyFrom fu u_now o10.2.2 ) fun (o13 : TS) =>
nm (X_ln_ o10.2.1 ((0 : Int32))) fun (u14 : TX) =>
some (o10.1, o13, o10.2.2, o12.1, o12.2.1, o12.2.2.1, o12.2.2.2.1, o12.2.2.2.2.1, o12.2.2.2.2.2.1, o12.2.2.2.2.2.2, u14)
)
else (
nm (X_ep o10.2.1) fun (x15 : Int32) =>
nm ((-200000 : Int32) - x15) fun (x16 : Int32) =>
some (x16, u_now, o10.2.2, u_history, u_history_r0, u_history_r1, u_history_r2, u_history_r3, u_history_r4, u_history_r5, o10.2.1)
)

abbrev rm_X4_load : Room := { frames := 5, cells := 0, slots := 0, locals := 115 }
set_option maxHeartbeats 4000000 in
set_option maxRecDepth 100000 in
theorem c_X4_load (l : Launch) (D : va_G) (cT : Nat → ClassId) (g : Nat → Nat) (fu : Nat) (u_now : TS) (u_trial : TS) (u_history : TH) (u_history_r0 : TS) (u_history_r1 : TS) (u_history_r2 : TS) (u_history_r3 : TS) (u_history_r4 : TS) (u_history_r5 : TS) (u_text : TX)  (o : Int32 × TS × TS × TH × TS × TS × TS × TS × TS × TS × TX) (hf : f_X4_load fu u_now u_trial u_history u_history_r0 u_history_r1 u_history_r2 u_history_r3 u_history_r4 u_history_r5 u_text  = some o) (sz : Nat) : Met l yX4_load wsX4_load rm_X4_load (va_Pc [.ref (g 0)] (PRE D cT sz (List.flatten [wT g, wS cT g 1 u_now, wS cT g 13 u_trial, wH cT g 25 u_history, wS cT g 27 u_history_r0, wS cT g 35 u_history_r1, wS cT g 43 u_history_r2, wS cT g 51 u_history_r3, wS cT g 59 u_history_r4, wS cT g 67 u_history_r5, wX cT g 75 u_text]))) (QI D o.1 (List.flatten [wT g, wS cT g 1 o.2.1, wS cT g 13 o.2.2.1, wH cT g 25 o.2.2.2.1, wS cT g 27 o.2.2.2.2.1, wS cT g 35 o.2.2.2.2.2.1, wS cT g 43 o.2.2.2.2.2.2.1, wS cT g 51 o.2.2.2.2.2.2.2.1, wS cT g 59 o.2.2.2.2.2.2.2.2.1, wS cT g 67 o.2.2.2.2.2.2.2.2.2.1, wX cT g 75 o.2.2.2.2.2.2.2.2.2.2]) (va_A (List.flatten [wT g, wS cT g 1 u_now, wS cT g 13 u_trial, wH cT g 25 u_history, wS cT g 27 u_history_r0, wS cT g 35 u_history_r1, wS cT g 43 u_history_r2, wS cT g 51 u_history_r3, wS cT g 59 u_history_r4, wS cT g 67 u_history_r5, wX cT g 75 u_text]) sz)) 0 0 (va_A (List.flatten [wT g, wS cT g 1 u_now, wS cT g 13 u_trial, wH cT g 25 u_history, wS cT g 27 u_history_r0, wS cT g 35 u_history_r1, wS cT g 43 u_history_r2, wS cT g 51 u_history_r3, wS cT g 59 u_history_r4, wS cT g 67 u_history_r5, wX cT g 75 u_text]) sz) := by
  refine Met.ofW (cc := cX4_load) (maxL := 2) (ret := (some .int)) (by decide) rfl ?_
  intro p e s m args below meth c s₁ B0 hml hv
  obtain ⟨hav, hsz, hP, hK, hD, hN, hZ⟩ := hv
  have hx := B0.exec
  have hb := B0.bytes
  have hr := B0.returns
  have hts := atoms_spec (ws := wsX4_load) B0.pre
  have hown : s.vm.findClass RX4 = some m.cls := findClass_of_methodNamed B0.named
  have hlocks := B0.notSynchronized
  subst hsz
  have hD := hD.self (sz := s.heap.size)
  have hA : ∀ q : Nat, s.heap.size ≤ q → va_A (List.flatten [wT g, wS cT g 1 u_now, wS cT g 13 u_trial, wH cT g 25 u_history, wS cT g 27 u_history_r0, wS cT g 35 u_history_r1, wS cT g 43 u_history_r2, wS cT g 51 u_history_r3, wS cT g 59 u_history_r4, wS cT g 67 u_history_r5, wX cT g 75 u_text]) s.heap.size q := fun q h => Or.inr h
  generalize va_A (List.flatten [wT g, wS cT g 1 u_now, wS cT g 13 u_trial, wH cT g 25 u_history, wS cT g 27 u_history_r0, wS cT g 35 u_history_r1, wS cT g 43 u_history_r2, wS cT g 51 u_history_r3, wS cT g 59 u_history_r4, wS cT g 67 u_history_r5, wX cT g 75 u_text]) s.heap.size = A at hD hZ hA ⊢
  have hS : va_S A s.heap s.heap [] := va_S.rf
  have hl := lv_entry ([.ref (g 0)]) (n := 2) (Nat.le_of_ble_eq_true rfl)
  rw [hav]
  rw [lg_entry_eq]
  generalize (lg_sl ([.ref (g 0)]) ++ List.replicate (2 - (lg_sl ([.ref (g 0)])).length) Slot.unset).toArray = ls at hl ⊢
  have hl : lv_has ls 2 [(0, .ref (g 0))] := hl
  rw [← hav]
  generalize hQ : MQ below _ _ _ _ _ _ = Q
  show W p l e rm_X4_load s m args below meth c s.heap [] 0 0 Q (F0 m 0 ls [])
  unfold f_X4_load at hf
  refine lv_aload_n hx hb dX4_load_0 rfl (lv_at hl 0 rfl) ?_
  refine va_get (ci := 4) (v := .ref (g 13)) (C := RX4) (T := TX4) (N := 8) hx hb hts iw_X4_load_X4 hown hK hP 0 rfl rfl 2 (by decide) (hts (.fieldLink RX4 25 "BallastTrack" "trial" "LBallastTrack$State;") (List.mem_of_getElem? (i := 1) rfl)) (fun _ h9 => h9) rfl dX4_load_1 ?_
  refine lv_aload_n hx hb dX4_load_4 rfl (lv_at hl 0 rfl) ?_
  refine va_get (ci := 4) (v := .ref (g 1)) (C := RX4) (T := TX4) (N := 8) hx hb hts iw_X4_load_X4 hown hK hP 0 rfl rfl 0 (by decide) (hts (.fieldLink RX4 10 "BallastTrack" "now" "LBallastTrack$State;") (List.mem_of_getElem? (i := 2) rfl)) (fun _ h9 => h9) rfl dX4_load_5 ?_
  obtain ⟨o9, ho9, hf⟩ := bd_i hf
  refine cl_v [2, 1] [0, 3, 4, 5, 6, 7, 8, 9, 10] [wT g, wS cT g 1 u_now, wS cT g 13 o9, wH cT g 25 u_history, wS cT g 27 u_history_r0, wS cT g 35 u_history_r1, wS cT g 43 u_history_r2, wS cT g 51 u_history_r3, wS cT g 59 u_history_r4, wS cT g 67 u_history_r5, wX cT g 75 u_text] hP (va_D_adr hD rfl) hA hS (va_runV (As := [.ref (g 1)]) (rest := []) ⟨hx, hb, hml, hown, hts⟩ (c_X1_copyFrom l D cT g 13 1 fu u_trial u_now  o9 ho9 _) (cwV 1 hts gX4_load_X1_copyFrom rfl rfl rfl (by decide +kernel) ⟨Nat.le_of_ble_eq_true rfl, Nat.le_of_ble_eq_true rfl⟩) ⟨PRE_blind, va_recv hK hP (ci := 1) (q0 := 9) rfl rfl, PRE_ok [2, 1] (by decide) hP (va_D_adr hD rfl) hA hS hK hN hZ⟩ rfl rfl hl.1 rfl (lv_room (Nat.le_of_ble_eq_true rfl)) dX4_load_8 ⟨Nat.le_of_ble_eq_true rfl, Nat.le_of_ble_eq_true rfl⟩) rfl 11 rfl (by decide) (by decide) (fun H locs hP hS => ?_)
  refine lv_aload_n hx hb dX4_load_11 rfl (lv_at hl 0 rfl) ?_
  refine va_get (ci := 4) (v := .ref (g 75)) (C := RX4) (T := TX4) (N := 8) hx hb hts iw_X4_load_X4 hown hK hP 0 rfl rfl 5 (by decide) (hts (.fieldLink RX4 41 "BallastTrack" "text" "LBallastTrack$Text;") (List.mem_of_getElem? (i := 3) rfl)) (fun _ h9 => h9) rfl dX4_load_12 ?_
  refine lv_aload_n hx hb dX4_load_15 rfl (lv_at hl 0 rfl) ?_
  refine va_get (ci := 4) (v := .ref (g 13)) (C := RX4) (T := TX4) (N := 8) hx hb hts iw_X4_load_X4 hown hK hP 0 rfl rfl 2 (by decide) (hts (.fieldLink RX4 25 "BallastTrack" "trial" "LBallastTrack$State;") (List.mem_of_getElem? (i := 1) rfl)) (fun _ h9 => h9) rfl dX4_load_16 ?_
  obtain ⟨o10, ho10, hf⟩ := bd_i hf
  refine cl_i [10, 2] [0, 1, 3, 4, 5, 6, 7, 8, 9] [wT g, wS cT g 1 u_now, wS cT g 13 o10.2.2, wH cT g 25 u_history, wS cT g 27 u_history_r0, wS cT g 35 u_history_r1, wS cT g 43 u_history_r2, wS cT g 51 u_history_r3, wS cT g 59 u_history_r4, wS cT g 67 u_history_r5, wX cT g 75 o10.2.1] hP (va_D_adr hD rfl) hA hS (va_runV (As := [.ref (g 13)]) (rest := []) ⟨hx, hb, hml, hown, hts⟩ (c_X3_readInto l D cT g 75 13 fu u_text o9  o10 ho10 _) (cwV 1 hts gX4_load_X3_readInto rfl rfl rfl (by decide +kernel) ⟨Nat.le_of_ble_eq_true rfl, Nat.le_of_ble_eq_true rfl⟩) ⟨PRE_blind, va_recv hK hP (ci := 3) (q0 := 67) rfl rfl, PRE_ok [10, 2] (by decide) hP (va_D_adr hD rfl) hA hS hK hN hZ⟩ rfl rfl hl.1 rfl (lv_room (Nat.le_of_ble_eq_true rfl)) dX4_load_19 ⟨Nat.le_of_ble_eq_true rfl, Nat.le_of_ble_eq_true rfl⟩) rfl 11 rfl (by decide) (by decide) (fun H locs hP hS => ?_)
  refine lv_istore_n (lv' := [(1, .int o10.1), (0, .ref (g 0))]) hx hb dX4_load_22 rfl hl (by decide) rfl (fun ls hl => ?_)
  refine lv_iload_n hx hb dX4_load_23 rfl (lv_at hl 0 rfl) ?_
  refine lv_if_ge (tgt := 38) hx hb dX4_load_24 (by decide) (fun c11 => ?_) (fun c11 => ?_)
  · replace hf := it_t hf c11
    refine lv_aload_n hx hb dX4_load_38 rfl (lv_at hl 1 rfl) ?_
    refine va_get (ci := 4) (v := .ref (g 25)) (C := RX4) (T := TX4) (N := 8) hx hb hts iw_X4_load_X4 hown hK hP 0 rfl rfl 4 (by decide) (hts (.fieldLink RX4 34 "BallastTrack" "history" "LBallastTrack$History;") (List.mem_of_getElem? (i := 6) rfl)) (fun _ h9 => h9) rfl dX4_load_39 ?_
    refine lv_aload_n hx hb dX4_load_42 rfl (lv_at hl 1 rfl) ?_
    refine va_get (ci := 4) (v := .ref (g 1)) (C := RX4) (T := TX4) (N := 8) hx hb hts iw_X4_load_X4 hown hK hP 0 rfl rfl 0 (by decide) (hts (.fieldLink RX4 10 "BallastTrack" "now" "LBallastTrack$State;") (List.mem_of_getElem? (i := 2) rfl)) (fun _ h9 => h9) rfl dX4_load_43 ?_
    obtain ⟨o12, ho12, hf⟩ := bd_i hf
    refine cl_v [3, 4, 5, 6, 7, 8, 9, 1] [0, 2, 10] [wT g, wS cT g 1 u_now, wS cT g 13 o10.2.2, wH cT g 25 o12.1, wS cT g 27 o12.2.1, wS cT g 35 o12.2.2.1, wS cT g 43 o12.2.2.2.1, wS cT g 51 o12.2.2.2.2.1, wS cT g 59 o12.2.2.2.2.2.1, wS cT g 67 o12.2.2.2.2.2.2, wX cT g 75 o10.2.1] hP (va_D_adr hD rfl) hA hS (va_runV (As := [.ref (g 1)]) (rest := []) ⟨hx, hb, hml, hown, hts⟩ (c_X0_save l D cT g 25 1 fu u_history u_history_r0 u_history_r1 u_history_r2 u_history_r3 u_history_r4 u_history_r5 u_now  o12 ho12 _) (cwV 1 hts gX4_load_X0_save rfl rfl rfl (by decide +kernel) ⟨Nat.le_of_ble_eq_true rfl, Nat.le_of_ble_eq_true rfl⟩) ⟨PRE_blind, va_recv hK hP (ci := 0) (q0 := 17) rfl rfl, PRE_ok [3, 4, 5, 6, 7, 8, 9, 1] (by decide) hP (va_D_adr hD rfl) hA hS hK hN hZ⟩ rfl rfl hl.1 rfl (lv_room (Nat.le_of_ble_eq_true rfl)) dX4_load_46 ⟨Nat.le_of_ble_eq_true rfl, Nat.le_of_ble_eq_true rfl⟩) rfl 11 rfl (by decide) (by decide) (fun H locs hP hS => ?_)
    refine lv_aload_n hx hb dX4_load_49 rfl (lv_at hl 1 rfl) ?_
    refine va_get (ci := 4) (v := .ref (g 1)) (C := RX4) (T := TX4) (N := 8) hx hb hts iw_X4_load_X4 hown hK hP 0 rfl rfl 0 (by decide) (hts (.fieldLink RX4 10 "BallastTrack" "now" "LBallastTrack$State;") (List.mem_of_getElem? (i := 2) rfl)) (fun _ h9 => h9) rfl dX4_load_50 ?_
    refine lv_aload_n hx hb dX4_load_53 rfl (lv_at hl 1 rfl) ?_
    refine va_get (ci := 4) (v := .ref (g 13)) (C := RX4) (T := TX4) (N := 8) hx hb hts iw_X4_load_X4 hown hK hP 0 rfl rfl 2 (by decide) (hts (.fieldLink RX4 25 "BallastTrack" "trial" "LBallastTrack$State;") (List.mem_of_getElem? (i := 1) rfl)) (fun _ h9 => h9) rfl dX4_load_54 ?_
    obtain ⟨o13, ho13, hf⟩ := bd_i hf
    refine cl_v [1, 2] [0, 3, 4, 5, 6, 7, 8, 9, 10] [wT g, wS cT g 1 o13, wS cT g 13 o10.2.2, wH cT g 25 o12.1, wS cT g 27 o12.2.1, wS cT g 35 o12.2.2.1, wS cT g 43 o12.2.2.2.1, wS cT g 51 o12.2.2.2.2.1, wS cT g 59 o12.2.2.2.2.2.1, wS cT g 67 o12.2.2.2.2.2.2, wX cT g 75 o10.2.1] hP (va_D_adr hD rfl) hA hS (va_runV (As := [.ref (g 13)]) (rest := []) ⟨hx, hb, hml, hown, hts⟩ (c_X1_copyFrom l D cT g 1 13 fu u_now o10.2.2  o13 ho13 _) (cwV 1 hts gX4_load_X1_copyFrom rfl rfl rfl (by decide +kernel) ⟨Nat.le_of_ble_eq_true rfl, Nat.le_of_ble_eq_true rfl⟩) ⟨PRE_blind, va_recv hK hP (ci := 1) (q0 := 1) rfl rfl, PRE_ok [1, 2] (by decide) hP (va_D_adr hD rfl) hA hS hK hN hZ⟩ rfl rfl hl.1 rfl (lv_room (Nat.le_of_ble_eq_true rfl)) dX4_load_57 ⟨Nat.le_of_ble_eq_true rfl, Nat.le_of_ble_eq_true rfl⟩) rfl 11 rfl (by decide) (by decide) (fun H locs hP hS => ?_)
    refine lv_aload_n hx hb dX4_load_60 rfl (lv_at hl 1 rfl) ?_
    refine va_get (ci := 4) (v := .ref (g 75)) (C := RX4) (T := TX4) (N := 8) hx hb hts iw_X4_load_X4 hown hK hP 0 rfl rfl 5 (by decide) (hts (.fieldLink RX4 41 "BallastTrack" "text" "LBallastTrack$Text;") (List.mem_of_getElem? (i := 3) rfl)) (fun _ h9 => h9) rfl dX4_load_61 ?_
    refine lv_iconst (v := 0) hx hb dX4_load_64 (by decide) ?_
    refine va_put (ci := 3) (v := .int ((0 : Int32))) (ty := .int) (C := RX3) (T := TX3) (N := 4) hx hb hts iw_X4_load_X3 tyX3 tyX3_ok nmX3 hown hK hP (va_D_adr hD rfl) hS 67 rfl rfl 1 (by decide) (hts (.fieldLink RX4 94 "BallastTrack$Text" "length" "I") (List.mem_of_getElem? (i := 7) rfl)) (fun _ h9 => h9) rfl (by decide +kernel) rfl rfl (Nat.le_of_ble_eq_true rfl) dX4_load_65 (fun H locs hP _ hS => ?_)
    obtain ⟨u14, eu14⟩ : ∃ z : TX, z = X_ln_ o10.2.1 ((0 : Int32)) := ⟨_, rfl⟩
    replace hf := nm_i hf eu14
    have hP : va_P D vwCl (List.flatten [wT g, wS cT g 1 o13, wS cT g 13 o10.2.2, wH cT g 25 o12.1, wS cT g 27 o12.2.1, wS cT g 35 o12.2.2.1, wS cT g 43 o12.2.2.2.1, wS cT g 51 o12.2.2.2.2.1, wS cT g 59 o12.2.2.2.2.2.1, wS cT g 67 o12.2.2.2.2.2.2, wX cT g 75 u14]) H := by rw [eu14]; exact hP
    refine lv_iload_n hx hb dX4_load_68 rfl (lv_at hl 0 rfl) ?_
    obtain rfl := Option.some.inj hf
    subst hQ
    exact en_i hx hb hr hP hS hlocks dX4_load_69
  · replace hf := it_f hf c11
    refine lv_ldc (v := -200000) hx hb hown (hts (.constant RX4 108 (-200000)) (List.mem_of_getElem? (i := 4) rfl)) dX4_load_27 ?_
    refine lv_aload_n hx hb dX4_load_29 rfl (lv_at hl 1 rfl) ?_
    refine va_get (ci := 4) (v := .ref (g 75)) (C := RX4) (T := TX4) (N := 8) hx hb hts iw_X4_load_X4 hown hK hP 0 rfl rfl 5 (by decide) (hts (.fieldLink RX4 41 "BallastTrack" "text" "LBallastTrack$Text;") (List.mem_of_getElem? (i := 3) rfl)) (fun _ h9 => h9) rfl dX4_load_30 ?_
    refine va_get (ci := 3) (v := .int (X_ep o10.2.1)) (C := RX3) (T := TX3) (N := 4) hx hb hts iw_X4_load_X3 hown hK hP 67 rfl rfl 2 (by decide) (hts (.fieldLink RX4 109 "BallastTrack$Text" "errorPosition" "I") (List.mem_of_getElem? (i := 5) rfl)) (fun _ h9 => h9) rfl dX4_load_33 ?_
    refine lv_topi (fun x15 ex15 => ?_)
    replace hf := nm_i hf ex15
    refine lv_isub hx hb dX4_load_36 ?_
    refine lv_topi (fun x16 ex16 => ?_)
    replace hf := nm_i hf ex16
    obtain rfl := Option.some.inj hf
    subst hQ
    exact en_i hx hb hr hP hS hlocks dX4_load_37
theorem iw_X4_isStretch_X4 : ∀ w ∈ u_ws RX4 TX4 8, w ∈ wsX4_isStretch := by decide +kernel
def f_X4_isStretch (fu : Nat) (u_now : TS) (p0 : Int32) (p1 : Int32) : Option (Bool) :=
bd (f_X1_has fu u_now p0) fun (o10 : Bool) =>
jn (some (false)
) fun K31_15 =>
if bI o10 = 0 then (
K31_15 
)
else (
bd (f_X1_has fu u_now p1) fun (o17 : Bool) =>
if bI o17 = 0 then (
K31_15 
)
else (
if p1 < p0 then (
K31_15 
)
else (
some (true)
)
)
)

abbrev rm_X4_isStretch : Room := { frames := 2, cells := 0, slots := 0, locals := 43 }
set_option maxHeartbeats 4000000 in
set_option maxRecDepth 100000 in
theorem c_X4_isStretch (l : Launch) (D : va_G) (cT : Nat → ClassId) (g : Nat → Nat) (fu : Nat) (u_now : TS) (p0 : Int32) (p1 : Int32) (o : Bool) (hf : f_X4_isStretch fu u_now p0 p1 = some o) (sz : Nat) : Met l yX4_isStretch wsX4_isStretch rm_X4_isStretch (va_Pc [.ref (g 0), .int p0, .int p1] (PRE D cT sz (List.flatten [wT g, wS cT g 1 u_now]))) (QI D (bI o) (List.flatten [wT g, wS cT g 1 u_now]) (va_A (List.flatten [wT g, wS cT g 1 u_now]) sz)) 0 0 (va_A (List.flatten [wT g, wS cT g 1 u_now]) sz) := by
  refine Met.ofW (cc := cX4_isStretch) (maxL := 3) (ret := (some .boolean)) (by decide) rfl ?_
  intro p e s m args below meth c s₁ B0 hml hv
  obtain ⟨hav, hsz, hP, hK, hD, hN, hZ⟩ := hv
  have hx := B0.exec
  have hb := B0.bytes
  have hr := B0.returns
  have hts := atoms_spec (ws := wsX4_isStretch) B0.pre
  have hown : s.vm.findClass RX4 = some m.cls := findClass_of_methodNamed B0.named
  have hlocks := B0.notSynchronized
  subst hsz
  have hD := hD.self (sz := s.heap.size)
  have hA : ∀ q : Nat, s.heap.size ≤ q → va_A (List.flatten [wT g, wS cT g 1 u_now]) s.heap.size q := fun q h => Or.inr h
  generalize va_A (List.flatten [wT g, wS cT g 1 u_now]) s.heap.size = A at hD hZ hA ⊢
  have hS : va_S A s.heap s.heap [] := va_S.rf
  have hl := lv_entry ([.ref (g 0), .int p0, .int p1]) (n := 3) (Nat.le_of_ble_eq_true rfl)
  rw [hav]
  rw [lg_entry_eq]
  generalize (lg_sl ([.ref (g 0), .int p0, .int p1]) ++ List.replicate (3 - (lg_sl ([.ref (g 0), .int p0, .int p1])).length) Slot.unset).toArray = ls at hl ⊢
  have hl : lv_has ls 3 [(0, .ref (g 0)), (1, .int p0), (2, .int p1)] := hl
  rw [← hav]
  generalize hQ : MQ below _ _ _ _ _ _ = Q
  show W p l e rm_X4_isStretch s m args below meth c s.heap [] 0 0 Q (F0 m 0 ls [])
  unfold f_X4_isStretch at hf
  refine lv_aload_n hx hb dX4_isStretch_0 rfl (lv_at hl 0 rfl) ?_
  refine va_get (ci := 4) (v := .ref (g 1)) (C := RX4) (T := TX4) (N := 8) hx hb hts iw_X4_isStretch_X4 hown hK hP 0 rfl rfl 0 (by decide) (hts (.fieldLink RX4 10 "BallastTrack" "now" "LBallastTrack$State;") (List.mem_of_getElem? (i := 1) rfl)) (fun _ h9 => h9) rfl dX4_isStretch_1 ?_
  refine lv_iload_n hx hb dX4_isStretch_4 rfl (lv_at hl 1 rfl) ?_
  obtain ⟨o10, ho10, hf⟩ := bd_i hf
  refine cl_i [1] [0] [wT g, wS cT g 1 u_now] hP (va_D_adr hD rfl) hA hS (va_runV (As := [.int p0]) (rest := []) ⟨hx, hb, hml, hown, hts⟩ (c_X1_has l D cT g 1 fu u_now p0 o10 ho10 _) (cwV 1 hts gX4_isStretch_X1_has rfl rfl rfl (by decide +kernel) ⟨Nat.le_of_ble_eq_true rfl, Nat.le_of_ble_eq_true rfl⟩) ⟨PRE_blind, va_recv hK hP (ci := 1) (q0 := 1) rfl rfl, PRE_ok [1] (by decide) hP (va_D_adr hD rfl) hA hS hK hN hZ⟩ rfl rfl hl.1 rfl (lv_room (Nat.le_of_ble_eq_true rfl)) dX4_isStretch_5 ⟨Nat.le_of_ble_eq_true rfl, Nat.le_of_ble_eq_true rfl⟩) rfl 2 rfl (by decide) (by decide) (fun H locs hP hS => ?_)
  obtain ⟨K31_15, eK31_15, hf⟩ := jn_i hf
  have hK31_15 : ∀  (H : Heap) (locs : List Loc) (ls : Array Slot), K31_15  = some o → va_P D vwCl (List.flatten [wT g, wS cT g 1 u_now]) H → va_S A s.heap H locs → lv_has ls 3 [] → W p l e rm_X4_isStretch s m args below meth c H locs 0 0 Q (F0 m 31 ls []) := by
    intro  H locs ls hf hP hS hl
    rw [eK31_15] at hf
    refine lv_iconst (v := 0) hx hb dX4_isStretch_31 (by decide) ?_
    obtain rfl := Option.some.inj hf
    subst hQ
    exact en_z (v := false) hx hb hr hP hS hlocks dX4_isStretch_32
  clear eK31_15
  refine lv_if_eq (tgt := 31) hx hb dX4_isStretch_8 (by decide) (fun c16 => ?_) (fun c16 => ?_)
  · replace hf := it_t hf c16
    exact hK31_15  _ _ _ hf hP hS (lv_sub hl [] rfl)
  · replace hf := it_f hf c16
    refine lv_aload_n hx hb dX4_isStretch_11 rfl (lv_at hl 0 rfl) ?_
    refine va_get (ci := 4) (v := .ref (g 1)) (C := RX4) (T := TX4) (N := 8) hx hb hts iw_X4_isStretch_X4 hown hK hP 0 rfl rfl 0 (by decide) (hts (.fieldLink RX4 10 "BallastTrack" "now" "LBallastTrack$State;") (List.mem_of_getElem? (i := 1) rfl)) (fun _ h9 => h9) rfl dX4_isStretch_12 ?_
    refine lv_iload_n hx hb dX4_isStretch_15 rfl (lv_at hl 2 rfl) ?_
    obtain ⟨o17, ho17, hf⟩ := bd_i hf
    refine cl_i [1] [0] [wT g, wS cT g 1 u_now] hP (va_D_adr hD rfl) hA hS (va_runV (As := [.int p1]) (rest := []) ⟨hx, hb, hml, hown, hts⟩ (c_X1_has l D cT g 1 fu u_now p1 o17 ho17 _) (cwV 1 hts gX4_isStretch_X1_has rfl rfl rfl (by decide +kernel) ⟨Nat.le_of_ble_eq_true rfl, Nat.le_of_ble_eq_true rfl⟩) ⟨PRE_blind, va_recv hK hP (ci := 1) (q0 := 1) rfl rfl, PRE_ok [1] (by decide) hP (va_D_adr hD rfl) hA hS hK hN hZ⟩ rfl rfl hl.1 rfl (lv_room (Nat.le_of_ble_eq_true rfl)) dX4_isStretch_16 ⟨Nat.le_of_ble_eq_true rfl, Nat.le_of_ble_eq_true rfl⟩) rfl 2 rfl (by decide) (by decide) (fun H locs hP hS => ?_)
    refine lv_if_eq (tgt := 31) hx hb dX4_isStretch_19 (by decide) (fun c18 => ?_) (fun c18 => ?_)
    · replace hf := it_t hf c18
      exact hK31_15  _ _ _ hf hP hS (lv_sub hl [] rfl)
    · replace hf := it_f hf c18
      refine lv_iload_n hx hb dX4_isStretch_22 rfl (lv_at hl 1 rfl) ?_
      refine lv_iload_n hx hb dX4_isStretch_23 rfl (lv_at hl 2 rfl) ?_
      refine lv_icmp_gt (tgt := 31) hx hb dX4_isStretch_24 (by decide) (fun c19 => ?_) (fun c19 => ?_)
      · replace hf := it_t hf c19
        exact hK31_15  _ _ _ hf hP hS (lv_sub hl [] rfl)
      · replace hf := it_f hf c19
        refine lv_iconst (v := 1) hx hb dX4_isStretch_27 (by decide) ?_
        refine lv_goto (tgt := 32) hx hb dX4_isStretch_28 (by decide) ?_
        obtain rfl := Option.some.inj hf
        subst hQ
        exact en_z (v := true) hx hb hr hP hS hlocks dX4_isStretch_32
