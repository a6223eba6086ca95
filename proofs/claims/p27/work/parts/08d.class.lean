theorem iw_X4_sleeper_X1 : ∀ w ∈ u_ws RX1 TX1 9, w ∈ wsX4_sleeper := by decide +kernel
theorem iw_X4_sleeper_X4 : ∀ w ∈ u_ws RX4 TX4 8, w ∈ wsX4_sleeper := by decide +kernel
def f_X4_sleeper (fu : Nat) (u_now : TS) (u_survey : TV) (p0 : Int32) (p1 : Int32) : Option (Int32 × TV) :=
bd (f_X1_has fu u_now p0) fun (o30 : Bool) =>
if bI o30 = 0 then (
some ((-100001 : Int32), u_survey)
)
else (
bd (f_X4_isWithin fu  p1 ((0 : Int32)) ((9 : Int32))) fun (o32 : Bool) =>
if ¬ bI o32 = 0 then (
if p1 = (0 : Int32) then (
ix p0 60 <|
nm ((S_lv u_now) p0.toNatClampNeg) fun (x36 : Int32) =>
some (x36, u_survey)
)
else if p1 = (1 : Int32) then (
ix p0 60 <|
nm ((S_fo u_now) p0.toNatClampNeg) fun (x39 : Int32) =>
some (x39, u_survey)
)
else if p1 = (2 : Int32) then (
bd (f_X4_surveyed fu u_now u_survey p0 p1) fun (o41 : Int32 × TV) =>
some (o41.1, o41.2)
)
else if p1 = (3 : Int32) then (
bd (f_X4_surveyed fu u_now u_survey p0 p1) fun (o43 : Int32 × TV) =>
some (o43.1, o43.2)
)
else if p1 = (4 : Int32) then (
bd (f_X4_surveyed fu u_now u_survey p0 p1) fun (o45 : Int32 × TV) =>
some (o45.1, o45.2)
)
else if p1 = (5 : Int32) then (
bd (f_X4_surveyed fu u_now u_survey p0 p1) fun (o47 : Int32 × TV) =>
some (o47.1, o47.2)
)
else if p1 = (6 : Int32) then (
bd (f_X4_surveyed fu u_now u_survey p0 p1) fun (o49 : Int32 × TV) =>
some (o49.1, o49.2)
)
else if p1 = (7 : Int32) then (
bd (f_X4_surveyed fu u_now u_survey p0 p1) fun (o51 : Int32 × TV) =>
some (o51.1, o51.2)
)
else if p1 = (8 : Int32) then (
ix p0 60 <|
nm ((S_se u_now) p0.toNatClampNeg) fun (x54 : Int32) =>
some (x54, u_survey)
)
else if p1 = (9 : Int32) then (
ix p0 60 <|
nm ((S_li u_now) p0.toNatClampNeg) fun (x57 : Int32) =>
some (x57, u_survey)
)
else (
bd (f_X4_surveyed fu u_now u_survey p0 p1) fun (o58 : Int32 × TV) =>
some (o58.1, o58.2)
)
)
else (
some ((-100001 : Int32), u_survey)
)
)

abbrev rm_X4_sleeper : Room := { frames := 5, cells := 0, slots := 0, locals := 108 }
set_option maxHeartbeats 4000000 in
set_option maxRecDepth 100000 in
theorem c_X4_sleeper (l : Launch) (D : va_G) (cT : Nat → ClassId) (g : Nat → Nat) (fu : Nat) (u_now : TS) (u_survey : TV) (p0 : Int32) (p1 : Int32) (o : Int32 × TV) (hf : f_X4_sleeper fu u_now u_survey p0 p1 = some o) (sz : Nat) : Met l yX4_sleeper wsX4_sleeper rm_X4_sleeper (va_Pc [.ref (g 0), .int p0, .int p1] (PRE D cT sz (List.flatten [wT g, wS cT g 1 u_now, wV cT g 9 1 u_survey]))) (QI D o.1 (List.flatten [wT g, wS cT g 1 u_now, wV cT g 9 1 o.2]) (va_A (List.flatten [wT g, wS cT g 1 u_now, wV cT g 9 1 u_survey]) sz)) 0 0 (va_A (List.flatten [wT g, wS cT g 1 u_now, wV cT g 9 1 u_survey]) sz) := by
  refine Met.ofW (cc := cX4_sleeper) (maxL := 3) (ret := (some .int)) (by decide) rfl ?_
  intro p e s m args below meth c s₁ B0 hml hv
  obtain ⟨hav, hsz, hP, hK, hD, hN, hZ⟩ := hv
  have hx := B0.exec
  have hb := B0.bytes
  have hr := B0.returns
  have hts := atoms_spec (ws := wsX4_sleeper) B0.pre
  have hown : s.vm.findClass RX4 = some m.cls := findClass_of_methodNamed B0.named
  have hlocks := B0.notSynchronized
  subst hsz
  have hD := hD.self (sz := s.heap.size)
  have hA : ∀ q : Nat, s.heap.size ≤ q → va_A (List.flatten [wT g, wS cT g 1 u_now, wV cT g 9 1 u_survey]) s.heap.size q := fun q h => Or.inr h
  generalize va_A (List.flatten [wT g, wS cT g 1 u_now, wV cT g 9 1 u_survey]) s.heap.size = A at hD hZ hA ⊢
  have hS : va_S A s.heap s.heap [] := va_S.rf
  have hl := lv_entry ([.ref (g 0), .int p0, .int p1]) (n := 3) (Nat.le_of_ble_eq_true rfl)
  rw [hav]
  rw [lg_entry_eq]
  generalize (lg_sl ([.ref (g 0), .int p0, .int p1]) ++ List.replicate (3 - (lg_sl ([.ref (g 0), .int p0, .int p1])).length) Slot.unset).toArray = ls at hl ⊢
  have hl : lv_has ls 3 [(0, .ref (g 0)), (1, .int p0), (2, .int p1)] := hl
  rw [← hav]
  generalize hQ : MQ below _ _ _ _ _ _ = Q
  show W p l e rm_X4_sleeper s m args below meth c s.heap [] 0 0 Q (F0 m 0 ls [])
  unfold f_X4_sleeper at hf
  refine lv_aload_n hx hb dX4_sleeper_0 rfl (lv_at hl 0 rfl) ?_
  refine va_get (ci := 4) (v := .ref (g 1)) (C := RX4) (T := TX4) (N := 8) hx hb hts iw_X4_sleeper_X4 hown hK hP 0 rfl rfl 0 (by decide) (hts (.fieldLink RX4 10 "BallastTrack" "now" "LBallastTrack$State;") (List.mem_of_getElem? (i := 1) rfl)) (fun _ h9 => h9) rfl dX4_sleeper_1 ?_
  refine lv_iload_n hx hb dX4_sleeper_4 rfl (lv_at hl 1 rfl) ?_
  obtain ⟨o30, ho30, hf⟩ := bd_i hf
  refine cl_i [1] [0, 2] [wT g, wS cT g 1 u_now, wV cT g 9 1 u_survey] hP (va_D_adr hD rfl) hA hS (va_runV (As := [.int p0]) (rest := []) ⟨hx, hb, hml, hown, hts⟩ (c_X1_has l D cT g 1 fu u_now p0 o30 ho30 _) (cwV 1 hts gX4_sleeper_X1_has rfl rfl rfl (by decide +kernel) ⟨Nat.le_of_ble_eq_true rfl, Nat.le_of_ble_eq_true rfl⟩) ⟨PRE_blind, va_recv hK hP (ci := 1) (q0 := 1) rfl rfl, PRE_ok [1] (by decide) hP (va_D_adr hD rfl) hA hS hK hN hZ⟩ rfl rfl hl.1 rfl (lv_room (Nat.le_of_ble_eq_true rfl)) dX4_sleeper_5 ⟨Nat.le_of_ble_eq_true rfl, Nat.le_of_ble_eq_true rfl⟩) rfl 3 rfl (by decide) (by decide) (fun H locs hP hS => ?_)
  refine lv_if_eq (tgt := 21) hx hb dX4_sleeper_8 (by decide) (fun c31 => ?_) (fun c31 => ?_)
  · replace hf := it_t hf c31
    refine lv_ldc (v := -100001) hx hb hown (hts (.constant RX4 57 (-100001)) (List.mem_of_getElem? (i := 2) rfl)) dX4_sleeper_21 ?_
    obtain rfl := Option.some.inj hf
    subst hQ
    exact en_i hx hb hr hP hS hlocks dX4_sleeper_23
  · replace hf := it_f hf c31
    refine lv_iload_n hx hb dX4_sleeper_11 rfl (lv_at hl 2 rfl) ?_
    refine lv_iconst (v := 0) hx hb dX4_sleeper_12 (by decide) ?_
    refine lv_bipush (v := 9) hx hb dX4_sleeper_13 (by decide) ?_
    obtain ⟨o32, ho32, hf⟩ := bd_i hf
    refine cl_i [] [0, 1, 2] [wT g, wS cT g 1 u_now, wV cT g 9 1 u_survey] hP (va_D_adr hD rfl) hA hS (va_runS (As := [.int p1, .int ((0 : Int32)), .int ((9 : Int32))]) (rest := []) ⟨hx, hb, hml, hown, hts⟩ (c_X4_isWithin l D cT g  fu  p1 ((0 : Int32)) ((9 : Int32)) o32 ho32 _) (va_cwS 3 hts gX4_sleeper_X4_isWithin rfl rfl rfl (by decide +kernel) ⟨Nat.le_of_ble_eq_true rfl, Nat.le_of_ble_eq_true rfl⟩) ⟨PRE_blind, PRE_ok [] (by decide) hP (va_D_adr hD rfl) hA hS hK hN hZ⟩ rfl rfl hl.1 rfl (lv_room (Nat.le_of_ble_eq_true rfl)) dX4_sleeper_15 ⟨Nat.le_of_ble_eq_true rfl, Nat.le_of_ble_eq_true rfl⟩) rfl 3 rfl (by decide) (by decide) (fun H locs hP hS => ?_)
    refine lv_if_ne (tgt := 24) hx hb dX4_sleeper_18 (by decide) (fun c33 => ?_) (fun c33 => ?_)
    · replace hf := it_t hf c33
      refine lv_iload_n hx hb dX4_sleeper_24 rfl (lv_at hl 2 rfl) ?_
      by_cases c34 : p1 = (0 : Int32)
      · replace hf := it_t hf c34
        refine lv_tableIn (off := 55) (tgt := 80) hx hb dX4_sleeper_25 (by rw [c34]; decide) (by rw [c34]; decide) (by rw [c34]; rfl) (by decide) ?_
        refine lv_aload_n hx hb dX4_sleeper_80 rfl (lv_at hl 0 rfl) ?_
        refine va_get (ci := 4) (v := .ref (g 1)) (C := RX4) (T := TX4) (N := 8) hx hb hts iw_X4_sleeper_X4 hown hK hP 0 rfl rfl 0 (by decide) (hts (.fieldLink RX4 10 "BallastTrack" "now" "LBallastTrack$State;") (List.mem_of_getElem? (i := 1) rfl)) (fun _ h9 => h9) rfl dX4_sleeper_81 ?_
        refine va_get (ci := 1) (v := .ref (g (1 + 2))) (C := RX1) (T := TX1) (N := 9) hx hb hts iw_X4_sleeper_X1 hown hK hP 1 rfl rfl 3 (by decide) (hts (.fieldLink RX4 87 "BallastTrack$State" "levels" "[I") (List.mem_of_getElem? (i := 3) rfl)) (fun _ h9 => h9) rfl dX4_sleeper_84 ?_
        refine lv_iload_n hx hb dX4_sleeper_87 rfl (lv_at hl 1 rfl) ?_
        obtain ⟨hi35, hf⟩ := ix_i hf
        refine va_iald hx hb hK hP 3 0 rfl rfl hi35 dX4_sleeper_88 ?_
        refine lv_topi (fun x36 ex36 => ?_)
        replace hf := nm_i hf ex36
        obtain rfl := Option.some.inj hf
        subst hQ
        exact en_i hx hb hr hP hS hlocks dX4_sleeper_89
      replace hf := it_f hf c34
      by_cases c37 : p1 = (1 : Int32)
      · replace hf := it_t hf c37
        refine lv_tableIn (off := 65) (tgt := 90) hx hb dX4_sleeper_25 (by rw [c37]; decide) (by rw [c37]; decide) (by rw [c37]; rfl) (by decide) ?_
        refine lv_aload_n hx hb dX4_sleeper_90 rfl (lv_at hl 0 rfl) ?_
        refine va_get (ci := 4) (v := .ref (g 1)) (C := RX4) (T := TX4) (N := 8) hx hb hts iw_X4_sleeper_X4 hown hK hP 0 rfl rfl 0 (by decide) (hts (.fieldLink RX4 10 "BallastTrack" "now" "LBallastTrack$State;") (List.mem_of_getElem? (i := 1) rfl)) (fun _ h9 => h9) rfl dX4_sleeper_91 ?_
        refine va_get (ci := 1) (v := .ref (g (1 + 3))) (C := RX1) (T := TX1) (N := 9) hx hb hts iw_X4_sleeper_X1 hown hK hP 1 rfl rfl 4 (by decide) (hts (.fieldLink RX4 116 "BallastTrack$State" "foulings" "[I") (List.mem_of_getElem? (i := 4) rfl)) (fun _ h9 => h9) rfl dX4_sleeper_94 ?_
        refine lv_iload_n hx hb dX4_sleeper_97 rfl (lv_at hl 1 rfl) ?_
        obtain ⟨hi38, hf⟩ := ix_i hf
        refine va_iald hx hb hK hP 4 0 rfl rfl hi38 dX4_sleeper_98 ?_
        refine lv_topi (fun x39 ex39 => ?_)
        replace hf := nm_i hf ex39
        obtain rfl := Option.some.inj hf
        subst hQ
        exact en_i hx hb hr hP hS hlocks dX4_sleeper_99
      replace hf := it_f hf c37
      by_cases c40 : p1 = (2 : Int32)
      · replace hf := it_t hf c40
        refine lv_tableIn (off := 95) (tgt := 120) hx hb dX4_sleeper_25 (by rw [c40]; decide) (by rw [c40]; decide) (by rw [c40]; rfl) (by decide) ?_
        refine lv_aload_n hx hb dX4_sleeper_120 rfl (lv_at hl 0 rfl) ?_
        refine lv_iload_n hx hb dX4_sleeper_121 rfl (lv_at hl 1 rfl) ?_
        refine lv_iload_n hx hb dX4_sleeper_122 rfl (lv_at hl 2 rfl) ?_
        obtain ⟨o41, ho41, hf⟩ := bd_i hf
        refine cl_i [0, 1, 2] [] [wT g, wS cT g 1 u_now, wV cT g 9 1 o41.2] hP (va_D_adr hD rfl) hA hS (va_runV (As := [.int p0, .int p1]) (rest := []) ⟨hx, hb, hml, hown, hts⟩ (c_X4_surveyed l D cT g  fu u_now u_survey p0 p1 o41 ho41 _) (cwV 2 hts gX4_sleeper_X4_surveyed rfl rfl rfl (by decide +kernel) ⟨Nat.le_of_ble_eq_true rfl, Nat.le_of_ble_eq_true rfl⟩) ⟨PRE_blind, va_recv hK hP (ci := 4) (q0 := 0) rfl rfl, PRE_ok [0, 1, 2] (by decide) hP (va_D_adr hD rfl) hA hS hK hN hZ⟩ rfl rfl hl.1 rfl (lv_room (Nat.le_of_ble_eq_true rfl)) dX4_sleeper_123 ⟨Nat.le_of_ble_eq_true rfl, Nat.le_of_ble_eq_true rfl⟩) rfl 3 rfl (by decide) (by decide) (fun H locs hP hS => ?_)
        obtain rfl := Option.some.inj hf
        subst hQ
        exact en_i hx hb hr hP hS hlocks dX4_sleeper_126
      replace hf := it_f hf c40
      by_cases c42 : p1 = (3 : Int32)
      · replace hf := it_t hf c42
        refine lv_tableIn (off := 95) (tgt := 120) hx hb dX4_sleeper_25 (by rw [c42]; decide) (by rw [c42]; decide) (by rw [c42]; rfl) (by decide) ?_
        refine lv_aload_n hx hb dX4_sleeper_120 rfl (lv_at hl 0 rfl) ?_
        refine lv_iload_n hx hb dX4_sleeper_121 rfl (lv_at hl 1 rfl) ?_
        refine lv_iload_n hx hb dX4_sleeper_122 rfl (lv_at hl 2 rfl) ?_
        obtain ⟨o43, ho43, hf⟩ := bd_i hf
        refine cl_i [0, 1, 2] [] [wT g, wS cT g 1 u_now, wV cT g 9 1 o43.2] hP (va_D_adr hD rfl) hA hS (va_runV (As := [.int p0, .int p1]) (rest := []) ⟨hx, hb, hml, hown, hts⟩ (c_X4_surveyed l D cT g  fu u_now u_survey p0 p1 o43 ho43 _) (cwV 2 hts gX4_sleeper_X4_surveyed rfl rfl rfl (by decide +kernel) ⟨Nat.le_of_ble_eq_true rfl, Nat.le_of_ble_eq_true rfl⟩) ⟨PRE_blind, va_recv hK hP (ci := 4) (q0 := 0) rfl rfl, PRE_ok [0, 1, 2] (by decide) hP (va_D_adr hD rfl) hA hS hK hN hZ⟩ rfl rfl hl.1 rfl (lv_room (Nat.le_of_ble_eq_true rfl)) dX4_sleeper_123 ⟨Nat.le_of_ble_eq_true rfl, Nat.le_of_ble_eq_true rfl⟩) rfl 3 rfl (by decide) (by decide) (fun H locs hP hS => ?_)
        obtain rfl := Option.some.inj hf
        subst hQ
        exact en_i hx hb hr hP hS hlocks dX4_sleeper_126
      replace hf := it_f hf c42
      by_cases c44 : p1 = (4 : Int32)
      · replace hf := it_t hf c44
        refine lv_tableIn (off := 95) (tgt := 120) hx hb dX4_sleeper_25 (by rw [c44]; decide) (by rw [c44]; decide) (by rw [c44]; rfl) (by decide) ?_
        refine lv_aload_n hx hb dX4_sleeper_120 rfl (lv_at hl 0 rfl) ?_
        refine lv_iload_n hx hb dX4_sleeper_121 rfl (lv_at hl 1 rfl) ?_
        refine lv_iload_n hx hb dX4_sleeper_122 rfl (lv_at hl 2 rfl) ?_
        obtain ⟨o45, ho45, hf⟩ := bd_i hf
        refine cl_i [0, 1, 2] [] [wT g, wS cT g 1 u_now, wV cT g 9 1 o45.2] hP (va_D_adr hD rfl) hA hS (va_runV (As := [.int p0, .int p1]) (rest := []) ⟨hx, hb, hml, hown, hts⟩ (c_X4_surveyed l D cT g  fu u_now u_survey p0 p1 o45 ho45 _) (cwV 2 hts gX4_sleeper_X4_surveyed rfl rfl rfl (by decide +kernel) ⟨Nat.le_of_ble_eq_true rfl, Nat.le_of_ble_eq_true rfl⟩) ⟨PRE_blind, va_recv hK hP (ci := 4) (q0 := 0) rfl rfl, PRE_ok [0, 1, 2] (by decide) hP (va_D_adr hD rfl) hA hS hK hN hZ⟩ rfl rfl hl.1 rfl (lv_room (Nat.le_of_ble_eq_true rfl)) dX4_sleeper_123 ⟨Nat.le_of_ble_eq_true rfl, Nat.le_of_ble_eq_true rfl⟩) rfl 3 rfl (by decide) (by decide) (fun H locs hP hS => ?_)
        obtain rfl := Option.some.inj hf
        subst hQ
        exact en_i hx hb hr hP hS hlocks dX4_sleeper_126
      replace hf := it_f hf c44
      by_cases c46 : p1 = (5 : Int32)
      · replace hf := it_t hf c46
        refine lv_tableIn (off := 95) (tgt := 120) hx hb dX4_sleeper_25 (by rw [c46]; decide) (by rw [c46]; decide) (by rw [c46]; rfl) (by decide) ?_
        refine lv_aload_n hx hb dX4_sleeper_120 rfl (lv_at hl 0 rfl) ?_
        refine lv_iload_n hx hb dX4_sleeper_121 rfl (lv_at hl 1 rfl) ?_
        refine lv_iload_n hx hb dX4_sleeper_122 rfl (lv_at hl 2 rfl) ?_
        obtain ⟨o47, ho47, hf⟩ := bd_i hf
        refine cl_i [0, 1, 2] [] [wT g, wS cT g 1 u_now, wV cT g 9 1 o47.2] hP (va_D_adr hD rfl) hA hS (va_runV (As := [.int p0, .int p1]) (rest := []) ⟨hx, hb, hml, hown, hts⟩ (c_X4_surveyed l D cT g  fu u_now u_survey p0 p1 o47 ho47 _) (cwV 2 hts gX4_sleeper_X4_surveyed rfl rfl rfl (by decide +kernel) ⟨Nat.le_of_ble_eq_true rfl, Nat.le_of_ble_eq_true rfl⟩) ⟨PRE_blind, va_recv hK hP (ci := 4) (q0 := 0) rfl rfl, PRE_ok [0, 1, 2] (by decide) hP (va_D_adr hD rfl) hA hS hK hN hZ⟩ rfl rfl hl.1 rfl (lv_room (Nat.le_of_ble_eq_true rfl)) dX4_sleeper_123 ⟨Nat.le_of_ble_eq_true rfl, Nat.le_of_ble_eq_true rfl⟩) rfl 3 rfl (by decide) (by decide) (fun H locs hP hS => ?_)
        obtain rfl := Option.some.inj hf
        subst hQ
        exact en_i hx hb hr hP hS hlocks dX4_sleeper_126
      replace hf := it_f hf c46
      by_cases c48 : p1 = (6 : Int32)
      · replace hf := it_t hf c48
        refine lv_tableIn (off := 95) (tgt := 120) hx hb dX4_sleeper_25 (by rw [c48]; decide) (by rw [c48]; decide) (by rw [c48]; rfl) (by decide) ?_
        refine lv_aload_n hx hb dX4_sleeper_120 rfl (lv_at hl 0 rfl) ?_
        refine lv_iload_n hx hb dX4_sleeper_121 rfl (lv_at hl 1 rfl) ?_
        refine lv_iload_n hx hb dX4_sleeper_122 rfl (lv_at hl 2 rfl) ?_
        obtain ⟨o49, ho49, hf⟩ := bd_i hf
        refine cl_i [0, 1, 2] [] [wT g, wS cT g 1 u_now, wV cT g 9 1 o49.2] hP (va_D_adr hD rfl) hA hS (va_runV (As := [.int p0, .int p1]) (rest := []) ⟨hx, hb, hml, hown, hts⟩ (c_X4_surveyed l D cT g  fu u_now u_survey p0 p1 o49 ho49 _) (cwV 2 hts gX4_sleeper_X4_surveyed rfl rfl rfl (by decide +kernel) ⟨Nat.le_of_ble_eq_true rfl, Nat.le_of_ble_eq_true rfl⟩) ⟨PRE_blind, va_recv hK hP (ci := 4) (q0 := 0) rfl rfl, PRE_ok [0, 1, 2] (by decide) hP (va_D_adr hD rfl) hA hS hK hN hZ⟩ rfl rfl hl.1 rfl (lv_room (Nat.le_of_ble_eq_true rfl)) dX4_sleeper_123 ⟨Nat.le_of_ble_eq_true rfl, Nat.le_of_ble_eq_true rfl⟩) rfl 3 rfl (by decide) (by decide) (fun H locs hP hS => ?_)
        obtain rfl := Option.some.inj hf
        subst hQ
        exact en_i hx hb hr hP hS hlocks dX4_sleeper_126
      replace hf := it_f hf c48
      by_cases c50 : p1 = (7 : Int32)
      · replace hf := it_t hf c50
        refine lv_tableIn (off := 95) (tgt := 120) hx hb dX4_sleeper_25 (by rw [c50]; decide) (by rw [c50]; decide) (by rw [c50]; rfl) (by decide) ?_
        refine lv_aload_n hx hb dX4_sleeper_120 rfl (lv_at hl 0 rfl) ?_
        refine lv_iload_n hx hb dX4_sleeper_121 rfl (lv_at hl 1 rfl) ?_
        refine lv_iload_n hx hb dX4_sleeper_122 rfl (lv_at hl 2 rfl) ?_
        obtain ⟨o51, ho51, hf⟩ := bd_i hf
        refine cl_i [0, 1, 2] [] [wT g, wS cT g 1 u_now, wV cT g 9 1 o51.2] hP (va_D_adr hD rfl) hA hS (va_runV (As := [.int p0, .int p1]) (rest := []) ⟨hx, hb, hml, hown, hts⟩ (c_X4_surveyed l D cT g  fu u_now u_survey p0 p1 o51 ho51 _) (cwV 2 hts gX4_sleeper_X4_surveyed rfl rfl rfl (by decide +kernel) ⟨Nat.le_of_ble_eq_true rfl, Nat.le_of_ble_eq_true rfl⟩) ⟨PRE_blind, va_recv hK hP (ci := 4) (q0 := 0) rfl rfl, PRE_ok [0, 1, 2] (by decide) hP (va_D_adr hD rfl) hA hS hK hN hZ⟩ rfl rfl hl.1 rfl (lv_room (Nat.le_of_ble_eq_true rfl)) dX4_sleeper_123 ⟨Nat.le_of_ble_eq_true rfl, Nat.le_of_ble_eq_true rfl⟩) rfl 3 rfl (by decide) (by decide) (fun H locs hP hS => ?_)
        obtain rfl := Option.some.inj hf
        subst hQ
        exact en_i hx hb hr hP hS hlocks dX4_sleeper_126
      replace hf := it_f hf c50
      by_cases c52 : p1 = (8 : Int32)
      · replace hf := it_t hf c52
        refine lv_tableIn (off := 75) (tgt := 100) hx hb dX4_sleeper_25 (by rw [c52]; decide) (by rw [c52]; decide) (by rw [c52]; rfl) (by decide) ?_
        refine lv_aload_n hx hb dX4_sleeper_100 rfl (lv_at hl 0 rfl) ?_
        refine va_get (ci := 4) (v := .ref (g 1)) (C := RX4) (T := TX4) (N := 8) hx hb hts iw_X4_sleeper_X4 hown hK hP 0 rfl rfl 0 (by decide) (hts (.fieldLink RX4 10 "BallastTrack" "now" "LBallastTrack$State;") (List.mem_of_getElem? (i := 1) rfl)) (fun _ h9 => h9) rfl dX4_sleeper_101 ?_
        refine va_get (ci := 1) (v := .ref (g (1 + 4))) (C := RX1) (T := TX1) (N := 9) hx hb hts iw_X4_sleeper_X1 hown hK hP 1 rfl rfl 5 (by decide) (hts (.fieldLink RX4 166 "BallastTrack$State" "settled" "[I") (List.mem_of_getElem? (i := 5) rfl)) (fun _ h9 => h9) rfl dX4_sleeper_104 ?_
        refine lv_iload_n hx hb dX4_sleeper_107 rfl (lv_at hl 1 rfl) ?_
        obtain ⟨hi53, hf⟩ := ix_i hf
        refine va_iald hx hb hK hP 5 0 rfl rfl hi53 dX4_sleeper_108 ?_
        refine lv_topi (fun x54 ex54 => ?_)
        replace hf := nm_i hf ex54
        obtain rfl := Option.some.inj hf
        subst hQ
        exact en_i hx hb hr hP hS hlocks dX4_sleeper_109
      replace hf := it_f hf c52
      by_cases c55 : p1 = (9 : Int32)
      · replace hf := it_t hf c55
        refine lv_tableIn (off := 85) (tgt := 110) hx hb dX4_sleeper_25 (by rw [c55]; decide) (by rw [c55]; decide) (by rw [c55]; rfl) (by decide) ?_
        refine lv_aload_n hx hb dX4_sleeper_110 rfl (lv_at hl 0 rfl) ?_
        refine va_get (ci := 4) (v := .ref (g 1)) (C := RX4) (T := TX4) (N := 8) hx hb hts iw_X4_sleeper_X4 hown hK hP 0 rfl rfl 0 (by decide) (hts (.fieldLink RX4 10 "BallastTrack" "now" "LBallastTrack$State;") (List.mem_of_getElem? (i := 1) rfl)) (fun _ h9 => h9) rfl dX4_sleeper_111 ?_
        refine va_get (ci := 1) (v := .ref (g (1 + 5))) (C := RX1) (T := TX1) (N := 9) hx hb hts iw_X4_sleeper_X1 hown hK hP 1 rfl rfl 6 (by decide) (hts (.fieldLink RX4 169 "BallastTrack$State" "lifted" "[I") (List.mem_of_getElem? (i := 6) rfl)) (fun _ h9 => h9) rfl dX4_sleeper_114 ?_
        refine lv_iload_n hx hb dX4_sleeper_117 rfl (lv_at hl 1 rfl) ?_
        obtain ⟨hi56, hf⟩ := ix_i hf
        refine va_iald hx hb hK hP 6 0 rfl rfl hi56 dX4_sleeper_118 ?_
        refine lv_topi (fun x57 ex57 => ?_)
        replace hf := nm_i hf ex57
        obtain rfl := Option.some.inj hf
        subst hQ
        exact en_i hx hb hr hP hS hlocks dX4_sleeper_119
      replace hf := it_f hf c55
      refine lv_tableOut (tgt := 120) hx hb dX4_sleeper_25 (sw_out (fun k h1 h2 => by
        rcases (show k = 0 ∨ k = 1 ∨ k = 2 ∨ k = 3 ∨ k = 4 ∨ k = 5 ∨ k = 6 ∨ k = 7 ∨ k = 8 ∨ k = 9 by omega) with rfl | rfl | rfl | rfl | rfl | rfl | rfl | rfl | rfl | rfl
        · exact c34
        · exact c37
        · exact c40
        · exact c42
        · exact c44
        · exact c46
        · exact c48
        · exact c50
        · exact c52
        · exact c55)) (by decide) ?_
      refine lv_aload_n hx hb dX4_sleeper_120 rfl (lv_at hl 0 rfl) ?_
      refine lv_iload_n hx hb dX4_sleeper_121 rfl (lv_at hl 1 rfl) ?_
      refine lv_iload_n hx hb dX4_sleeper_122 rfl (lv_at hl 2 rfl) ?_
      obtain ⟨o58, ho58, hf⟩ := bd_i hf
      refine cl_i [0, 1, 2] [] [wT g, wS cT g 1 u_now, wV cT g 9 1 o58.2] hP (va_D_adr hD rfl) hA hS (va_runV (As := [.int p0, .int p1]) (rest := []) ⟨hx, hb, hml, hown, hts⟩ (c_X4_surveyed l D cT g  fu u_now u_survey p0 p1 o58 ho58 _) (cwV 2 hts gX4_sleeper_X4_surveyed rfl rfl rfl (by decide +kernel) ⟨Nat.le_of_ble_eq_true rfl, Nat.le_of_ble_eq_true rfl⟩) ⟨PRE_blind, va_recv hK hP (ci := 4) (q0 := 0) rfl rfl, PRE_ok [0, 1, 2] (by decide) hP (va_D_adr hD rfl) hA hS hK hN hZ⟩ rfl rfl hl.1 rfl (lv_room (Nat.le_of_ble_eq_true rfl)) dX4_sleeper_123 ⟨Nat.le_of_ble_eq_true rfl, Nat.le_of_ble_eq_true rfl⟩) rfl 3 rfl (by decide) (by decide) (fun H locs hP hS => ?_)
      obtain rfl := Option.some.inj hf
      subst hQ
      exact en_i hx hb hr hP hS hlocks dX4_sleeper_126
    · replace hf := it_f hf (not_not_intro c33)
      refine lv_ldc (v := -100001) hx hb hown (hts (.constant RX4 57 (-100001)) (List.mem_of_getElem? (i := 2) rfl)) dX4_sleeper_21 ?_
      obtain rfl := Option.some.inj hf
      subst hQ
      exact en_i hx hb hr hP hS hlocks dX4_sleeper_23
theorem iw_X4_job_X1 : ∀ w ∈ u_ws RX1 TX1 9, w ∈ wsX4_job := by decide +kernel
theorem iw_X4_job_X4 : ∀ w ∈ u_ws RX4 TX4 8, w ∈ wsX4_job := by decide +kernel
def f_X4_job (fu : Nat) (u_now : TS) (p0 : Int32) (p1 : Int32) : Option (Int32) :=
if p0 < 0 then (
some ((-100001 : Int32))
)
else (
bd (f_X4_isWithin fu  p1 ((0 : Int32)) ((3 : Int32))) fun (o8 : Bool) =>
if ¬ bI o8 = 0 then (
nm (S_jb u_now) fun (x10 : Int32) =>
if p0 < x10 then (
bd (f_X1_jobValue fu u_now p0 p1) fun (o12 : Int32) =>
some (o12)
)
else (
some ((-100009 : Int32))
)
)
else (
some ((-100001 : Int32))
)
)

abbrev rm_X4_job : Room := { frames := 1, cells := 0, slots := 0, locals := 22 }
set_option maxHeartbeats 4000000 in
set_option maxRecDepth 100000 in
theorem c_X4_job (l : Launch) (D : va_G) (cT : Nat → ClassId) (g : Nat → Nat) (fu : Nat) (u_now : TS) (p0 : Int32) (p1 : Int32) (o : Int32) (hf : f_X4_job fu u_now p0 p1 = some o) (sz : Nat) : Met l yX4_job wsX4_job rm_X4_job (va_Pc [.ref (g 0), .int p0, .int p1] (PRE D cT sz (List.flatten [wT g, wS cT g 1 u_now]))) (QI D o (List.flatten [wT g, wS cT g 1 u_now]) (va_A (List.flatten [wT g, wS cT g 1 u_now]) sz)) 0 0 (va_A (List.flatten [wT g, wS cT g 1 u_now]) sz) := by
  refine Met.ofW (cc := cX4_job) (maxL := 3) (ret := (some .int)) (by decide) rfl ?_
  intro p e s m args below meth c s₁ B0 hml hv
  obtain ⟨hav, hsz, hP, hK, hD, hN, hZ⟩ := hv
  have hx := B0.exec
  have hb := B0.bytes
  have hr := B0.returns
  have hts := atoms_spec (ws := wsX4_job) B0.pre
  have hown : s.vm.findClass RX4 = some m.cls := findClass_of_methodNamed B0.named
  have hlocks := B0.notSynchronized
  subst hsz
  have hD := hD.self (sz := s.heap.size)
  have hA : ∀ q : Nat, s.heap.size ≤ q → va_A (List.flatten [wT g, wS cT g 1 u_now]) s.heap.size q := fun q h => Or.inr h
  generalize va_A (List.flatten [wT g, wS cT g 1 u_now]) s.heap.size = A at hD hZ hA ⊢
  have hS : va_S A s.heap s.heap [] := va_S.rf
  have hl := lv_entry ([.ref (g 0), .int p0, .int p1]) (n := 3) (Nat.le_of_ble_eq_true rfl)
  rw [hav]
  rw [lg_entry_eq]
  generalize (lg_sl ([.ref (g 0), .int p0, .int p1]) ++ List.replicate (3 - (lg_sl ([.ref (g 0), .int p0, .int p1])).length) Slot.unset).toArray = ls at hl ⊢
  have hl : lv_has ls 3 [(0, .ref (g 0)), (1, .int p0), (2, .int p1)] := hl
  rw [← hav]
  generalize hQ : MQ below _ _ _ _ _ _ = Q
  show W p l e rm_X4_job s m args below meth c s.heap [] 0 0 Q (F0 m 0 ls [])
  unfold f_X4_job at hf
  refine lv_iload_n hx hb dX4_job_0 rfl (lv_at hl 1 rfl) ?_
  refine lv_if_lt (tgt := 13) hx hb dX4_job_1 (by decide) (fun c7 => ?_) (fun c7 => ?_)
  · replace hf := it_t hf c7
    refine lv_ldc (v := -100001) hx hb hown (hts (.constant RX4 57 (-100001)) (List.mem_of_getElem? (i := 1) rfl)) dX4_job_13 ?_
    obtain rfl := Option.some.inj hf
    subst hQ
    exact en_i hx hb hr hP hS hlocks dX4_job_15
  · replace hf := it_f hf c7
    refine lv_iload_n hx hb dX4_job_4 rfl (lv_at hl 2 rfl) ?_
    refine lv_iconst (v := 0) hx hb dX4_job_5 (by decide) ?_
    refine lv_iconst (v := 3) hx hb dX4_job_6 (by decide) ?_
    obtain ⟨o8, ho8, hf⟩ := bd_i hf
    refine cl_i [] [0, 1] [wT g, wS cT g 1 u_now] hP (va_D_adr hD rfl) hA hS (va_runS (As := [.int p1, .int ((0 : Int32)), .int ((3 : Int32))]) (rest := []) ⟨hx, hb, hml, hown, hts⟩ (c_X4_isWithin l D cT g  fu  p1 ((0 : Int32)) ((3 : Int32)) o8 ho8 _) (va_cwS 3 hts gX4_job_X4_isWithin rfl rfl rfl (by decide +kernel) ⟨Nat.le_of_ble_eq_true rfl, Nat.le_of_ble_eq_true rfl⟩) ⟨PRE_blind, PRE_ok [] (by decide) hP (va_D_adr hD rfl) hA hS hK hN hZ⟩ rfl rfl hl.1 rfl (lv_room (Nat.le_of_ble_eq_true rfl)) dX4_job_7 ⟨Nat.le_of_ble_eq_true rfl, Nat.le_of_ble_eq_true rfl⟩) rfl 2 rfl (by decide) (by decide) (fun H locs hP hS => ?_)
    refine lv_if_ne (tgt := 16) hx hb dX4_job_10 (by decide) (fun c9 => ?_) (fun c9 => ?_)
    · replace hf := it_t hf c9
      refine lv_iload_n hx hb dX4_job_16 rfl (lv_at hl 1 rfl) ?_
      refine lv_aload_n hx hb dX4_job_17 rfl (lv_at hl 0 rfl) ?_
      refine va_get (ci := 4) (v := .ref (g 1)) (C := RX4) (T := TX4) (N := 8) hx hb hts iw_X4_job_X4 hown hK hP 0 rfl rfl 0 (by decide) (hts (.fieldLink RX4 10 "BallastTrack" "now" "LBallastTrack$State;") (List.mem_of_getElem? (i := 2) rfl)) (fun _ h9 => h9) rfl dX4_job_18 ?_
      refine va_get (ci := 1) (v := .int (S_jb u_now)) (C := RX1) (T := TX1) (N := 9) hx hb hts iw_X4_job_X1 hown hK hP 1 rfl rfl 1 (by decide) (hts (.fieldLink RX4 119 "BallastTrack$State" "jobs" "I") (List.mem_of_getElem? (i := 3) rfl)) (fun _ h9 => h9) rfl dX4_job_21 ?_
      refine lv_topi (fun x10 ex10 => ?_)
      replace hf := nm_i hf ex10
      refine lv_icmp_lt (tgt := 30) hx hb dX4_job_24 (by decide) (fun c11 => ?_) (fun c11 => ?_)
      · replace hf := it_t hf c11
        refine lv_aload_n hx hb dX4_job_30 rfl (lv_at hl 0 rfl) ?_
        refine va_get (ci := 4) (v := .ref (g 1)) (C := RX4) (T := TX4) (N := 8) hx hb hts iw_X4_job_X4 hown hK hP 0 rfl rfl 0 (by decide) (hts (.fieldLink RX4 10 "BallastTrack" "now" "LBallastTrack$State;") (List.mem_of_getElem? (i := 2) rfl)) (fun _ h9 => h9) rfl dX4_job_31 ?_
        refine lv_iload_n hx hb dX4_job_34 rfl (lv_at hl 1 rfl) ?_
        refine lv_iload_n hx hb dX4_job_35 rfl (lv_at hl 2 rfl) ?_
        obtain ⟨o12, ho12, hf⟩ := bd_i hf
        refine cl_i [1] [0] [wT g, wS cT g 1 u_now] hP (va_D_adr hD rfl) hA hS (va_runV (As := [.int p0, .int p1]) (rest := []) ⟨hx, hb, hml, hown, hts⟩ (c_X1_jobValue l D cT g 1 fu u_now p0 p1 o12 ho12 _) (cwV 2 hts gX4_job_X1_jobValue rfl rfl rfl (by decide +kernel) ⟨Nat.le_of_ble_eq_true rfl, Nat.le_of_ble_eq_true rfl⟩) ⟨PRE_blind, va_recv hK hP (ci := 1) (q0 := 1) rfl rfl, PRE_ok [1] (by decide) hP (va_D_adr hD rfl) hA hS hK hN hZ⟩ rfl rfl hl.1 rfl (lv_room (Nat.le_of_ble_eq_true rfl)) dX4_job_36 ⟨Nat.le_of_ble_eq_true rfl, Nat.le_of_ble_eq_true rfl⟩) rfl 2 rfl (by decide) (by decide) (fun H locs hP hS => ?_)
        obtain rfl := Option.some.inj hf
        subst hQ
        exact en_i hx hb hr hP hS hlocks dX4_job_39
      · replace hf := it_f hf c11
        refine lv_ldc (v := -100009) hx hb hown (hts (.constant RX4 175 (-100009)) (List.mem_of_getElem? (i := 4) rfl)) dX4_job_27 ?_
        obtain rfl := Option.some.inj hf
        subst hQ
        exact en_i hx hb hr hP hS hlocks dX4_job_29
    · replace hf := it_f hf (not_not_intro c9)
      refine lv_ldc (v := -100001) hx hb hown (hts (.constant RX4 57 (-100001)) (List.mem_of_getElem? (i := 1) rfl)) dX4_job_13 ?_
      obtain rfl := Option.some.inj hf
      subst hQ
      exact en_i hx hb hr hP hS hlocks dX4_job_15
theorem iw_X4_account_X1 : ∀ w ∈ u_ws RX1 TX1 9, w ∈ wsX4_account := by decide +kernel
theorem iw_X4_account_X4 : ∀ w ∈ u_ws RX4 TX4 8, w ∈ wsX4_account := by decide +kernel
def f_X4_account (fu : Nat) (u_now : TS) (p0 : Int32) : Option (Int32) :=
bd (f_X4_isWithin fu  p0 ((0 : Int32)) ((6 : Int32))) fun (o5 : Bool) =>
if ¬ bI o5 = 0 then (
ix p0 7 <|
nm ((S_ac u_now) p0.toNatClampNeg) fun (x8 : Int32) =>
some (x8)
)
else (
some ((-100001 : Int32))
)

abbrev rm_X4_account : Room := { frames := 1, cells := 0, slots := 0, locals := 22 }
set_option maxHeartbeats 4000000 in
set_option maxRecDepth 100000 in
theorem c_X4_account (l : Launch) (D : va_G) (cT : Nat → ClassId) (g : Nat → Nat) (fu : Nat) (u_now : TS) (p0 : Int32) (o : Int32) (hf : f_X4_account fu u_now p0 = some o) (sz : Nat) : Met l yX4_account wsX4_account rm_X4_account (va_Pc [.ref (g 0), .int p0] (PRE D cT sz (List.flatten [wT g, wS cT g 1 u_now]))) (QI D o (List.flatten [wT g, wS cT g 1 u_now]) (va_A (List.flatten [wT g, wS cT g 1 u_now]) sz)) 0 0 (va_A (List.flatten [wT g, wS cT g 1 u_now]) sz) := by
  refine Met.ofW (cc := cX4_account) (maxL := 2) (ret := (some .int)) (by decide) rfl ?_
  intro p e s m args below meth c s₁ B0 hml hv
  obtain ⟨hav, hsz, hP, hK, hD, hN, hZ⟩ := hv
  have hx := B0.exec
  have hb := B0.bytes
  have hr := B0.returns
  have hts := atoms_spec (ws := wsX4_account) B0.pre
  have hown : s.vm.findClass RX4 = some m.cls := findClass_of_methodNamed B0.named
  have hlocks := B0.notSynchronized
  subst hsz
  have hD := hD.self (sz := s.heap.size)
  have hA : ∀ q : Nat, s.heap.size ≤ q → va_A (List.flatten [wT g, wS cT g 1 u_now]) s.heap.size q := fun q h => Or.inr h
  generalize va_A (List.flatten [wT g, wS cT g 1 u_now]) s.heap.size = A at hD hZ hA ⊢
  have hS : va_S A s.heap s.heap [] := va_S.rf
  have hl := lv_entry ([.ref (g 0), .int p0]) (n := 2) (Nat.le_of_ble_eq_true rfl)
  rw [hav]
  rw [lg_entry_eq]
  generalize (lg_sl ([.ref (g 0), .int p0]) ++ List.replicate (2 - (lg_sl ([.ref (g 0), .int p0])).length) Slot.unset).toArray = ls at hl ⊢
  have hl : lv_has ls 2 [(0, .ref (g 0)), (1, .int p0)] := hl
  rw [← hav]
  generalize hQ : MQ below _ _ _ _ _ _ = Q
  show W p l e rm_X4_account s m args below meth c s.heap [] 0 0 Q (F0 m 0 ls [])
  unfold f_X4_account at hf
  refine lv_iload_n hx hb dX4_account_0 rfl (lv_at hl 1 rfl) ?_
  refine lv_iconst (v := 0) hx hb dX4_account_1 (by decide) ?_
  refine lv_bipush (v := 6) hx hb dX4_account_2 (by decide) ?_
  obtain ⟨o5, ho5, hf⟩ := bd_i hf
  refine cl_i [] [0, 1] [wT g, wS cT g 1 u_now] hP (va_D_adr hD rfl) hA hS (va_runS (As := [.int p0, .int ((0 : Int32)), .int ((6 : Int32))]) (rest := []) ⟨hx, hb, hml, hown, hts⟩ (c_X4_isWithin l D cT g  fu  p0 ((0 : Int32)) ((6 : Int32)) o5 ho5 _) (va_cwS 3 hts gX4_account_X4_isWithin rfl rfl rfl (by decide +kernel) ⟨Nat.le_of_ble_eq_true rfl, Nat.le_of_ble_eq_true rfl⟩) ⟨PRE_blind, PRE_ok [] (by decide) hP (va_D_adr hD rfl) hA hS hK hN hZ⟩ rfl rfl hl.1 rfl (lv_room (Nat.le_of_ble_eq_true rfl)) dX4_account_4 ⟨Nat.le_of_ble_eq_true rfl, Nat.le_of_ble_eq_true rfl⟩) rfl 2 rfl (by decide) (by decide) (fun H locs hP hS => ?_)
  refine lv_if_ne (tgt := 13) hx hb dX4_account_7 (by decide) (fun c6 => ?_) (fun c6 => ?_)
  · replace hf := it_t hf c6
    refine lv_aload_n hx hb dX4_account_13 rfl (lv_at hl 0 rfl) ?_
    refine va_get (ci := 4) (v := .ref (g 1)) (C := RX4) (T := TX4) (N := 8) hx hb hts iw_X4_account_X4 hown hK hP 0 rfl rfl 0 (by decide) (hts (.fieldLink RX4 10 "BallastTrack" "now" "LBallastTrack$State;") (List.mem_of_getElem? (i := 2) rfl)) (fun _ h9 => h9) rfl dX4_account_14 ?_
    refine va_get (ci := 1) (v := .ref (g (1 + 7))) (C := RX1) (T := TX1) (N := 9) hx hb hts iw_X4_account_X1 hown hK hP 1 rfl rfl 8 (by decide) (hts (.fieldLink RX4 150 "BallastTrack$State" "accounts" "[I") (List.mem_of_getElem? (i := 3) rfl)) (fun _ h9 => h9) rfl dX4_account_17 ?_
    refine lv_iload_n hx hb dX4_account_20 rfl (lv_at hl 1 rfl) ?_
    obtain ⟨hi7, hf⟩ := ix_i hf
    refine va_iald hx hb hK hP 8 0 rfl rfl hi7 dX4_account_21 ?_
    refine lv_topi (fun x8 ex8 => ?_)
    replace hf := nm_i hf ex8
    obtain rfl := Option.some.inj hf
    subst hQ
    exact en_i hx hb hr hP hS hlocks dX4_account_22
  · replace hf := it_f hf (not_not_intro c6)
    refine lv_ldc (v := -100001) hx hb hown (hts (.constant RX4 57 (-100001)) (List.mem_of_getElem? (i := 1) rfl)) dX4_account_10 ?_
    obtain rfl := Option.some.inj hf
    subst hQ
    exact en_i hx hb hr hP hS hlocks dX4_account_12
theorem iw_X4_rail_X2 : ∀ w ∈ u_ws RX2 TX2 8, w ∈ wsX4_rail := by decide +kernel
theorem iw_X4_rail_X4 : ∀ w ∈ u_ws RX4 TX4 8, w ∈ wsX4_rail := by decide +kernel
def f_X4_rail (fu : Nat) (u_now : TS) (u_survey : TV) (p0 : Int32) (p1 : Int32) : Option (Int32 × TV) :=
bd (f_X1_has fu u_now p0) fun (o10 : Bool) =>
if bI o10 = 0 then (
some ((-100001 : Int32), u_survey)
)
else (
bd (f_X4_isWithin fu  p1 ((0 : Int32)) ((1 : Int32))) fun (o12 : Bool) =>
if ¬ bI o12 = 0 then (
if ¬ p1 = (1 : Int32) then (
bd (f_X2_look fu u_survey u_now ) fun (o15 : TV) =>
ix p0 60 <|
nm ((V_he o15) p0.toNatClampNeg) fun (x17 : Int32) =>
some (x17, o15)
)
else (
bd (f_X2_greatestOfAll fu u_survey u_now p0) fun (o18 : Int32) =>
some (o18, u_survey)
)
)
else (
some ((-100001 : Int32), u_survey)
)
)

abbrev rm_X4_rail : Room := { frames := 4, cells := 0, slots := 0, locals := 86 }
set_option maxHeartbeats 4000000 in
set_option maxRecDepth 100000 in
theorem c_X4_rail (l : Launch) (D : va_G) (cT : Nat → ClassId) (g : Nat → Nat) (fu : Nat) (u_now : TS) (u_survey : TV) (p0 : Int32) (p1 : Int32) (o : Int32 × TV) (hf : f_X4_rail fu u_now u_survey p0 p1 = some o) (sz : Nat) : Met l yX4_rail wsX4_rail rm_X4_rail (va_Pc [.ref (g 0), .int p0, .int p1] (PRE D cT sz (List.flatten [wT g, wS cT g 1 u_now, wV cT g 9 1 u_survey]))) (QI D o.1 (List.flatten [wT g, wS cT g 1 u_now, wV cT g 9 1 o.2]) (va_A (List.flatten [wT g, wS cT g 1 u_now, wV cT g 9 1 u_survey]) sz)) 0 0 (va_A (List.flatten [wT g, wS cT g 1 u_now, wV cT g 9 1 u_survey]) sz) := by
  refine Met.ofW (cc := cX4_rail) (maxL := 3) (ret := (some .int)) (by decide) rfl ?_
  intro p e s m args below meth c s₁ B0 hml hv
  obtain ⟨hav, hsz, hP, hK, hD, hN, hZ⟩ := hv
  have hx := B0.exec
  have hb := B0.bytes
  have hr := B0.returns
  have hts := atoms_spec (ws := wsX4_rail) B0.pre
  have hown : s.vm.findClass RX4 = some m.cls := findClass_of_methodNamed B0.named
  have hlocks := B0.notSynchronized
  subst hsz
  have hD := hD.self (sz := s.heap.size)
  have hA : ∀ q : Nat, s.heap.size ≤ q → va_A (List.flatten [wT g, wS cT g 1 u_now, wV cT g 9 1 u_survey]) s.heap.size q := fun q h => Or.inr h
  generalize va_A (List.flatten [wT g, wS cT g 1 u_now, wV cT g 9 1 u_survey]) s.heap.size = A at hD hZ hA ⊢
  have hS : va_S A s.heap s.heap [] := va_S.rf
  have hl := lv_entry ([.ref (g 0), .int p0, .int p1]) (n := 3) (Nat.le_of_ble_eq_true rfl)
  rw [hav]
  rw [lg_entry_eq]
  generalize (lg_sl ([.ref (g 0), .int p0, .int p1]) ++ List.replicate (3 - (lg_sl ([.ref (g 0), .int p0, .int p1])).length) Slot.unset).toArray = ls at hl ⊢
  have hl : lv_has ls 3 [(0, .ref (g 0)), (1, .int p0), (2, .int p1)] := hl
  rw [← hav]
  generalize hQ : MQ below _ _ _ _ _ _ = Q
  show W p l e rm_X4_rail s m args below meth c s.heap [] 0 0 Q (F0 m 0 ls [])
  unfold f_X4_rail at hf
  refine lv_aload_n hx hb dX4_rail_0 rfl (lv_at hl 0 rfl) ?_
  refine va_get (ci := 4) (v := .ref (g 1)) (C := RX4) (T := TX4) (N := 8) hx hb hts iw_X4_rail_X4 hown hK hP 0 rfl rfl 0 (by decide) (hts (.fieldLink RX4 10 "BallastTrack" "now" "LBallastTrack$State;") (List.mem_of_getElem? (i := 1) rfl)) (fun _ h9 => h9) rfl dX4_rail_1 ?_
  refine lv_iload_n hx hb dX4_rail_4 rfl (lv_at hl 1 rfl) ?_
  obtain ⟨o10, ho10, hf⟩ := bd_i hf
  refine cl_i [1] [0, 2] [wT g, wS cT g 1 u_now, wV cT g 9 1 u_survey] hP (va_D_adr hD rfl) hA hS (va_runV (As := [.int p0]) (rest := []) ⟨hx, hb, hml, hown, hts⟩ (c_X1_has l D cT g 1 fu u_now p0 o10 ho10 _) (cwV 1 hts gX4_rail_X1_has rfl rfl rfl (by decide +kernel) ⟨Nat.le_of_ble_eq_true rfl, Nat.le_of_ble_eq_true rfl⟩) ⟨PRE_blind, va_recv hK hP (ci := 1) (q0 := 1) rfl rfl, PRE_ok [1] (by decide) hP (va_D_adr hD rfl) hA hS hK hN hZ⟩ rfl rfl hl.1 rfl (lv_room (Nat.le_of_ble_eq_true rfl)) dX4_rail_5 ⟨Nat.le_of_ble_eq_true rfl, Nat.le_of_ble_eq_true rfl⟩) rfl 3 rfl (by decide) (by decide) (fun H locs hP hS => ?_)
  refine lv_if_eq (tgt := 20) hx hb dX4_rail_8 (by decide) (fun c11 => ?_) (fun c11 => ?_)
  · replace hf := it_t hf c11
    refine lv_ldc (v := -100001) hx hb hown (hts (.constant RX4 57 (-100001)) (List.mem_of_getElem? (i := 2) rfl)) dX4_rail_20 ?_
    obtain rfl := Option.some.inj hf
    subst hQ
    exact en_i hx hb hr hP hS hlocks dX4_rail_22
  · replace hf := it_f hf c11
    refine lv_iload_n hx hb dX4_rail_11 rfl (lv_at hl 2 rfl) ?_
    refine lv_iconst (v := 0) hx hb dX4_rail_12 (by decide) ?_
    refine lv_iconst (v := 1) hx hb dX4_rail_13 (by decide) ?_
    obtain ⟨o12, ho12, hf⟩ := bd_i hf
    refine cl_i [] [0, 1, 2] [wT g, wS cT g 1 u_now, wV cT g 9 1 u_survey] hP (va_D_adr hD rfl) hA hS (va_runS (As := [.int p1, .int ((0 : Int32)), .int ((1 : Int32))]) (rest := []) ⟨hx, hb, hml, hown, hts⟩ (c_X4_isWithin l D cT g  fu  p1 ((0 : Int32)) ((1 : Int32)) o12 ho12 _) (va_cwS 3 hts gX4_rail_X4_isWithin rfl rfl rfl (by decide +kernel) ⟨Nat.le_of_ble_eq_true rfl, Nat.le_of_ble_eq_true rfl⟩) ⟨PRE_blind, PRE_ok [] (by decide) hP (va_D_adr hD rfl) hA hS hK hN hZ⟩ rfl rfl hl.1 rfl (lv_room (Nat.le_of_ble_eq_true rfl)) dX4_rail_14 ⟨Nat.le_of_ble_eq_true rfl, Nat.le_of_ble_eq_true rfl⟩) rfl 3 rfl (by decide) (by decide) (fun H locs hP hS => ?_)
    refine lv_if_ne (tgt := 23) hx hb dX4_rail_17 (by decide) (fun c13 => ?_) (fun c13 => ?_)
    · replace hf := it_t hf c13
      refine lv_iload_n hx hb dX4_rail_23 rfl (lv_at hl 2 rfl) ?_
      refine lv_iconst (v := 1) hx hb dX4_rail_24 (by decide) ?_
      refine lv_icmp_ne (tgt := 37) hx hb dX4_rail_25 (by decide) (fun c14 => ?_) (fun c14 => ?_)
      · replace hf := it_t hf c14
        refine lv_aload_n hx hb dX4_rail_37 rfl (lv_at hl 0 rfl) ?_
        refine va_get (ci := 4) (v := .ref (g 9)) (C := RX4) (T := TX4) (N := 8) hx hb hts iw_X4_rail_X4 hown hK hP 0 rfl rfl 1 (by decide) (hts (.fieldLink RX4 21 "BallastTrack" "survey" "LBallastTrack$Survey;") (List.mem_of_getElem? (i := 3) rfl)) (fun _ h9 => h9) rfl dX4_rail_38 ?_
        obtain ⟨o15, ho15, hf⟩ := bd_i hf
        refine cl_v [2, 1] [0] [wT g, wS cT g 1 u_now, wV cT g 9 1 o15] hP (va_D_adr hD rfl) hA hS (va_runV (As := []) (rest := []) ⟨hx, hb, hml, hown, hts⟩ (c_X2_look l D cT g 9 1 fu u_survey u_now  o15 ho15 _) (cwV 0 hts gX4_rail_X2_look rfl rfl rfl (by decide +kernel) ⟨Nat.le_of_ble_eq_true rfl, Nat.le_of_ble_eq_true rfl⟩) ⟨PRE_blind, va_recv hK hP (ci := 2) (q0 := 9) rfl rfl, PRE_ok [2, 1] (by decide) hP (va_D_adr hD rfl) hA hS hK hN hZ⟩ rfl rfl hl.1 rfl (lv_room (Nat.le_of_ble_eq_true rfl)) dX4_rail_41 ⟨Nat.le_of_ble_eq_true rfl, Nat.le_of_ble_eq_true rfl⟩) rfl 3 rfl (by decide) (by decide) (fun H locs hP hS => ?_)
        refine lv_aload_n hx hb dX4_rail_44 rfl (lv_at hl 0 rfl) ?_
        refine va_get (ci := 4) (v := .ref (g 9)) (C := RX4) (T := TX4) (N := 8) hx hb hts iw_X4_rail_X4 hown hK hP 0 rfl rfl 1 (by decide) (hts (.fieldLink RX4 21 "BallastTrack" "survey" "LBallastTrack$Survey;") (List.mem_of_getElem? (i := 3) rfl)) (fun _ h9 => h9) rfl dX4_rail_45 ?_
        refine va_get (ci := 2) (v := .ref (g (9 + 1))) (C := RX2) (T := TX2) (N := 8) hx hb hts iw_X4_rail_X2 hown hK hP 9 rfl rfl 1 (by decide) (hts (.fieldLink RX4 179 "BallastTrack$Survey" "heights" "[I") (List.mem_of_getElem? (i := 4) rfl)) (fun _ h9 => h9) rfl dX4_rail_48 ?_
        refine lv_iload_n hx hb dX4_rail_51 rfl (lv_at hl 1 rfl) ?_
        obtain ⟨hi16, hf⟩ := ix_i hf
        refine va_iald hx hb hK hP 10 0 rfl rfl hi16 dX4_rail_52 ?_
        refine lv_topi (fun x17 ex17 => ?_)
        replace hf := nm_i hf ex17
        obtain rfl := Option.some.inj hf
        subst hQ
        exact en_i hx hb hr hP hS hlocks dX4_rail_53
      · replace hf := it_f hf (not_not_intro c14)
        refine lv_aload_n hx hb dX4_rail_28 rfl (lv_at hl 0 rfl) ?_
        refine va_get (ci := 4) (v := .ref (g 9)) (C := RX4) (T := TX4) (N := 8) hx hb hts iw_X4_rail_X4 hown hK hP 0 rfl rfl 1 (by decide) (hts (.fieldLink RX4 21 "BallastTrack" "survey" "LBallastTrack$Survey;") (List.mem_of_getElem? (i := 3) rfl)) (fun _ h9 => h9) rfl dX4_rail_29 ?_
        refine lv_iload_n hx hb dX4_rail_32 rfl (lv_at hl 1 rfl) ?_
        obtain ⟨o18, ho18, hf⟩ := bd_i hf
        refine cl_i [2, 1] [0] [wT g, wS cT g 1 u_now, wV cT g 9 1 u_survey] hP (va_D_adr hD rfl) hA hS (va_runV (As := [.int p0]) (rest := []) ⟨hx, hb, hml, hown, hts⟩ (c_X2_greatestOfAll l D cT g 9 1 fu u_survey u_now p0 o18 ho18 _) (cwV 1 hts gX4_rail_X2_greatestOfAll rfl rfl rfl (by decide +kernel) ⟨Nat.le_of_ble_eq_true rfl, Nat.le_of_ble_eq_true rfl⟩) ⟨PRE_blind, va_recv hK hP (ci := 2) (q0 := 9) rfl rfl, PRE_ok [2, 1] (by decide) hP (va_D_adr hD rfl) hA hS hK hN hZ⟩ rfl rfl hl.1 rfl (lv_room (Nat.le_of_ble_eq_true rfl)) dX4_rail_33 ⟨Nat.le_of_ble_eq_true rfl, Nat.le_of_ble_eq_true rfl⟩) rfl 3 rfl (by decide) (by decide) (fun H locs hP hS => ?_)
        obtain rfl := Option.some.inj hf
        subst hQ
        exact en_i hx hb hr hP hS hlocks dX4_rail_36
    · replace hf := it_f hf (not_not_intro c13)
      refine lv_ldc (v := -100001) hx hb hown (hts (.constant RX4 57 (-100001)) (List.mem_of_getElem? (i := 2) rfl)) dX4_rail_20 ?_
      obtain rfl := Option.some.inj hf
      subst hQ
      exact en_i hx hb hr hP hS hlocks dX4_rail_22
theorem iw_X4_why_X2 : ∀ w ∈ u_ws RX2 TX2 8, w ∈ wsX4_why := by decide +kernel
theorem iw_X4_why_X4 : ∀ w ∈ u_ws RX4 TX4 8, w ∈ wsX4_why := by decide +kernel
def f_X4_why (fu : Nat) (u_now : TS) (u_survey : TV) (p0 : Int32) : Option (Int32 × TV) :=
bd (f_X4_isWithin fu  p0 ((0 : Int32)) ((1 : Int32))) fun (o9 : Bool) =>
if ¬ bI o9 = 0 then (
bd (f_X2_look fu u_survey u_now ) fun (o11 : TV) =>
nm (V_od o11) fun (x12 : Int32) =>
if ¬ x12 = 0 then (
if ¬ p0 = 0 then (
nm (V_ws o11) fun (x15 : Int32) =>
some (x15, o11)
)
else (
nm (V_wo o11) fun (x16 : Int32) =>
some (x16, o11)
)
)
else (
some ((-100009 : Int32), o11)
)
)
else (
some ((-100001 : Int32), u_survey)
)

abbrev rm_X4_why : Room := { frames := 4, cells := 0, slots := 0, locals := 86 }
set_option maxHeartbeats 4000000 in
set_option maxRecDepth 100000 in
theorem c_X4_why (l : Launch) (D : va_G) (cT : Nat → ClassId) (g : Nat → Nat) (fu : Nat) (u_now : TS) (u_survey : TV) (p0 : Int32) (o : Int32 × TV) (hf : f_X4_why fu u_now u_survey p0 = some o) (sz : Nat) : Met l yX4_why wsX4_why rm_X4_why (va_Pc [.ref (g 0), .int p0] (PRE D cT sz (List.flatten [wT g, wS cT g 1 u_now, wV cT g 9 1 u_survey]))) (QI D o.1 (List.flatten [wT g, wS cT g 1 u_now, wV cT g 9 1 o.2]) (va_A (List.flatten [wT g, wS cT g 1 u_now, wV cT g 9 1 u_survey]) sz)) 0 0 (va_A (List.flatten [wT g, wS cT g 1 u_now, wV cT g 9 1 u_survey]) sz) := by
  refine Met.ofW (cc := cX4_why) (maxL := 2) (ret := (some .int)) (by decide) rfl ?_
  intro p e s m args below meth c s₁ B0 hml hv
  obtain ⟨hav, hsz, hP, hK, hD, hN, hZ⟩ := hv
  have hx := B0.exec
  have hb := B0.bytes
  have hr := B0.returns
  have hts := atoms_spec (ws := wsX4_why) B0.pre
  have hown : s.vm.findClass RX4 = some m.cls := findClass_of_methodNamed B0.named
  have hlocks := B0.notSynchronized
  subst hsz
  have hD := hD.self (sz := s.heap.size)
  have hA : ∀ q : Nat, s.heap.size ≤ q → va_A (List.flatten [wT g, wS cT g 1 u_now, wV cT g 9 1 u_survey]) s.heap.size q := fun q h => Or.inr h
  generalize va_A (List.flatten [wT g, wS cT g 1 u_now, wV cT g 9 1 u_survey]) s.heap.size = A at hD hZ hA ⊢
  have hS : va_S A s.heap s.heap [] := va_S.rf
  have hl := lv_entry ([.ref (g 0), .int p0]) (n := 2) (Nat.le_of_ble_eq_true rfl)
  rw [hav]
  rw [lg_entry_eq]
  generalize (lg_sl ([.ref (g 0), .int p0]) ++ List.replicate (2 - (lg_sl ([.ref (g 0), .int p0])).length) Slot.unset).toArray = ls at hl ⊢
  have hl : lv_has ls 2 [(0, .ref (g 0)), (1, .int p0)] := hl
  rw [← hav]
  generalize hQ : MQ below _ _ _ _ _ _ = Q
  show W p l e rm_X4_why s m args below meth c s.heap [] 0 0 Q (F0 m 0 ls [])
  unfold f_X4_why at hf
  refine lv_iload_n hx hb dX4_why_0 rfl (lv_at hl 1 rfl) ?_
  refine lv_iconst (v := 0) hx hb dX4_why_1 (by decide) ?_
  refine lv_iconst (v := 1) hx hb dX4_why_2 (by decide) ?_
  obtain ⟨o9, ho9, hf⟩ := bd_i hf
  refine cl_i [] [0, 1, 2] [wT g, wS cT g 1 u_now, wV cT g 9 1 u_survey] hP (va_D_adr hD rfl) hA hS (va_runS (As := [.int p0, .int ((0 : Int32)), .int ((1 : Int32))]) (rest := []) ⟨hx, hb, hml, hown, hts⟩ (c_X4_isWithin l D cT g  fu  p0 ((0 : Int32)) ((1 : Int32)) o9 ho9 _) (va_cwS 3 hts gX4_why_X4_isWithin rfl rfl rfl (by decide +kernel) ⟨Nat.le_of_ble_eq_true rfl, Nat.le_of_ble_eq_true rfl⟩) ⟨PRE_blind, PRE_ok [] (by decide) hP (va_D_adr hD rfl) hA hS hK hN hZ⟩ rfl rfl hl.1 rfl (lv_room (Nat.le_of_ble_eq_true rfl)) dX4_why_3 ⟨Nat.le_of_ble_eq_true rfl, Nat.le_of_ble_eq_true rfl⟩) rfl 3 rfl (by decide) (by decide) (fun H locs hP hS => ?_)
  refine lv_if_ne (tgt := 12) hx hb dX4_why_6 (by decide) (fun c10 => ?_) (fun c10 => ?_)
  · replace hf := it_t hf c10
    refine lv_aload_n hx hb dX4_why_12 rfl (lv_at hl 0 rfl) ?_
    refine va_get (ci := 4) (v := .ref (g 9)) (C := RX4) (T := TX4) (N := 8) hx hb hts iw_X4_why_X4 hown hK hP 0 rfl rfl 1 (by decide) (hts (.fieldLink RX4 21 "BallastTrack" "survey" "LBallastTrack$Survey;") (List.mem_of_getElem? (i := 2) rfl)) (fun _ h9 => h9) rfl dX4_why_13 ?_
    obtain ⟨o11, ho11, hf⟩ := bd_i hf
    refine cl_v [2, 1] [0] [wT g, wS cT g 1 u_now, wV cT g 9 1 o11] hP (va_D_adr hD rfl) hA hS (va_runV (As := []) (rest := []) ⟨hx, hb, hml, hown, hts⟩ (c_X2_look l D cT g 9 1 fu u_survey u_now  o11 ho11 _) (cwV 0 hts gX4_why_X2_look rfl rfl rfl (by decide +kernel) ⟨Nat.le_of_ble_eq_true rfl, Nat.le_of_ble_eq_true rfl⟩) ⟨PRE_blind, va_recv hK hP (ci := 2) (q0 := 9) rfl rfl, PRE_ok [2, 1] (by decide) hP (va_D_adr hD rfl) hA hS hK hN hZ⟩ rfl rfl hl.1 rfl (lv_room (Nat.le_of_ble_eq_true rfl)) dX4_why_16 ⟨Nat.le_of_ble_eq_true rfl, Nat.le_of_ble_eq_true rfl⟩) rfl 3 rfl (by decide) (by decide) (fun H locs hP hS => ?_)
    refine lv_aload_n hx hb dX4_why_19 rfl (lv_at hl 0 rfl) ?_
    refine va_get (ci := 4) (v := .ref (g 9)) (C := RX4) (T := TX4) (N := 8) hx hb hts iw_X4_why_X4 hown hK hP 0 rfl rfl 1 (by decide) (hts (.fieldLink RX4 21 "BallastTrack" "survey" "LBallastTrack$Survey;") (List.mem_of_getElem? (i := 2) rfl)) (fun _ h9 => h9) rfl dX4_why_20 ?_
    refine va_get (ci := 2) (v := .int (V_od o11)) (C := RX2) (T := TX2) (N := 8) hx hb hts iw_X4_why_X2 hown hK hP 9 rfl rfl 7 (by decide) (hts (.fieldLink RX4 143 "BallastTrack$Survey" "order" "I") (List.mem_of_getElem? (i := 3) rfl)) (fun _ h9 => h9) rfl dX4_why_23 ?_
    refine lv_topi (fun x12 ex12 => ?_)
    replace hf := nm_i hf ex12
    refine lv_if_ne (tgt := 32) hx hb dX4_why_26 (by decide) (fun c13 => ?_) (fun c13 => ?_)
    · replace hf := it_t hf c13
      refine lv_iload_n hx hb dX4_why_32 rfl (lv_at hl 1 rfl) ?_
      refine lv_if_ne (tgt := 46) hx hb dX4_why_33 (by decide) (fun c14 => ?_) (fun c14 => ?_)
      · replace hf := it_t hf c14
        refine lv_aload_n hx hb dX4_why_46 rfl (lv_at hl 0 rfl) ?_
        refine va_get (ci := 4) (v := .ref (g 9)) (C := RX4) (T := TX4) (N := 8) hx hb hts iw_X4_why_X4 hown hK hP 0 rfl rfl 1 (by decide) (hts (.fieldLink RX4 21 "BallastTrack" "survey" "LBallastTrack$Survey;") (List.mem_of_getElem? (i := 2) rfl)) (fun _ h9 => h9) rfl dX4_why_47 ?_
        refine va_get (ci := 2) (v := .int (V_ws o11)) (C := RX2) (T := TX2) (N := 8) hx hb hts iw_X4_why_X2 hown hK hP 9 rfl rfl 6 (by decide) (hts (.fieldLink RX4 185 "BallastTrack$Survey" "worstSize" "I") (List.mem_of_getElem? (i := 6) rfl)) (fun _ h9 => h9) rfl dX4_why_50 ?_
        refine lv_topi (fun x15 ex15 => ?_)
        replace hf := nm_i hf ex15
        obtain rfl := Option.some.inj hf
        subst hQ
        exact en_i hx hb hr hP hS hlocks dX4_why_53
      · replace hf := it_f hf (not_not_intro c14)
        refine lv_aload_n hx hb dX4_why_36 rfl (lv_at hl 0 rfl) ?_
        refine va_get (ci := 4) (v := .ref (g 9)) (C := RX4) (T := TX4) (N := 8) hx hb hts iw_X4_why_X4 hown hK hP 0 rfl rfl 1 (by decide) (hts (.fieldLink RX4 21 "BallastTrack" "survey" "LBallastTrack$Survey;") (List.mem_of_getElem? (i := 2) rfl)) (fun _ h9 => h9) rfl dX4_why_37 ?_
        refine va_get (ci := 2) (v := .int (V_wo o11)) (C := RX2) (T := TX2) (N := 8) hx hb hts iw_X4_why_X2 hown hK hP 9 rfl rfl 5 (by decide) (hts (.fieldLink RX4 182 "BallastTrack$Survey" "worst" "I") (List.mem_of_getElem? (i := 5) rfl)) (fun _ h9 => h9) rfl dX4_why_40 ?_
        refine lv_topi (fun x16 ex16 => ?_)
        replace hf := nm_i hf ex16
        refine lv_goto (tgt := 53) hx hb dX4_why_43 (by decide) ?_
        obtain rfl := Option.some.inj hf
        subst hQ
        exact en_i hx hb hr hP hS hlocks dX4_why_53
    · replace hf := it_f hf (not_not_intro c13)
      refine lv_ldc (v := -100009) hx hb hown (hts (.constant RX4 175 (-100009)) (List.mem_of_getElem? (i := 4) rfl)) dX4_why_29 ?_
      obtain rfl := Option.some.inj hf
      subst hQ
      exact en_i hx hb hr hP hS hlocks dX4_why_31
  · replace hf := it_f hf (not_not_intro c10)
    refine lv_ldc (v := -100001) hx hb hown (hts (.constant RX4 57 (-100001)) (List.mem_of_getElem? (i := 1) rfl)) dX4_why_9 ?_
    obtain rfl := Option.some.inj hf
    subst hQ
    exact en_i hx hb hr hP hS hlocks dX4_why_11
theorem iw_X4_trainsUntil_X2 : ∀ w ∈ u_ws RX2 TX2 8, w ∈ wsX4_trainsUntil := by decide +kernel
theorem iw_X4_trainsUntil_X4 : ∀ w ∈ u_ws RX4 TX4 8, w ∈ wsX4_trainsUntil := by decide +kernel
def lb_X4_trainsUntil_41 (fu : Nat) (p0 : Int32) (p1 : Int32) (p2 : Int32) (rec : Int32 → TS → TV → Option (Int32 × TS × TV)) (v37 : Int32) (u38 : TS) (u39 : TV) : Option (Int32 × TS × TV) :=
if (200 : Int32) ≤ v37 then (
some (v37, u38, u39)
)
else (
nm (V_od u39) fun (x43 : Int32) =>
if p2 ≤ x43 then (
some (v37, u38, u39)
)
else (
bd (f_X4_passTrain fu u39 u38 p0 p1) fun (o45 : TV × TS) =>
nm (v37 + (1 : Int32)) fun (x46 : Int32) =>
rec x46 o45.2 o45.1
)
)

def lf_X4_trainsUntil_41 (fu : Nat) (p0 : Int32) (p1 : Int32) (p2 : Int32) : Nat → Int32 → TS → TV → Option (Int32 × TS × TV) := lq_3 (lb_X4_trainsUntil_41 fu p0 p1 p2)
def f_X4_trainsUntil (fu : Nat) (u_now : TS) (u_trial : TS) (u_trialSurvey : TV) (p0 : Int32) (p1 : Int32) (p2 : Int32) : Option (Int32 × TS × TV) :=
bd (f_X4_isTrain fu  p0 p1) fun (o22 : Bool) =>
if bI o22 = 0 then (
some ((-100001 : Int32), u_trial, u_trialSurvey)
)
else (
bd (f_X4_isWithin fu  p2 ((1 : Int32)) ((3 : Int32))) fun (o24 : Bool) =>
if ¬ bI o24 = 0 then (
bd (f_X1_copyFrom fu u_trial u_now ) fun (o26 : TS) =>
bd (f_X2_look fu u_trialSurvey o26 ) fun (o27 : TV) =>
bd (lf_X4_trainsUntil_41 fu p0 p1 p2 fu ((0 : Int32)) o26 o27) fun (z41 : Int32 × TS × TV) =>
nm (V_od z41.2.2) fun (x47 : Int32) =>
if x47 < p2 then (
some ((-100009 : Int32), z41.2.1, z41.2.2)
)
else (
some (z41.1, z41.2.1, z41.2.2)
)
)
else (
some ((-100001 : Int32), u_trial, u_trialSurvey)
)
)

abbrev rm_X4_trainsUntil : Room := { frames := 5, cells := 0, slots := 0, locals := 110 }
set_option maxHeartbeats 4000000 in
set_option maxRecDepth 100000 in
theorem c_X4_trainsUntil (l : Launch) (D : va_G) (cT : Nat → ClassId) (g : Nat → Nat) (fu : Nat) (u_now : TS) (u_trial : TS) (u_trialSurvey : TV) (p0 : Int32) (p1 : Int32) (p2 : Int32) (o : Int32 × TS × TV) (hf : f_X4_trainsUntil fu u_now u_trial u_trialSurvey p0 p1 p2 = some o) (sz : Nat) : Met l yX4_trainsUntil wsX4_trainsUntil rm_X4_trainsUntil (va_Pc [.ref (g 0), .int p0, .int p1, .int p2] (PRE D cT sz (List.flatten [wT g, wS cT g 1 u_now, wS cT g 13 u_trial, wV cT g 21 13 u_trialSurvey]))) (QI D o.1 (List.flatten [wT g, wS cT g 1 u_now, wS cT g 13 o.2.1, wV cT g 21 13 o.2.2]) (va_A (List.flatten [wT g, wS cT g 1 u_now, wS cT g 13 u_trial, wV cT g 21 13 u_trialSurvey]) sz)) 0 0 (va_A (List.flatten [wT g, wS cT g 1 u_now, wS cT g 13 u_trial, wV cT g 21 13 u_trialSurvey]) sz) := by
  refine Met.ofW (cc := cX4_trainsUntil) (maxL := 5) (ret := (some .int)) (by decide) rfl ?_
  intro p e s m args below meth c s₁ B0 hml hv
  obtain ⟨hav, hsz, hP, hK, hD, hN, hZ⟩ := hv
  have hx := B0.exec
  have hb := B0.bytes
  have hr := B0.returns
  have hts := atoms_spec (ws := wsX4_trainsUntil) B0.pre
  have hown : s.vm.findClass RX4 = some m.cls := findClass_of_methodNamed B0.named
  have hlocks := B0.notSynchronized
  subst hsz
  have hD := hD.self (sz := s.heap.size)
  have hA : ∀ q : Nat, s.heap.size ≤ q → va_A (List.flatten [wT g, wS cT g 1 u_now, wS cT g 13 u_trial, wV cT g 21 13 u_trialSurvey]) s.heap.size q := fun q h => Or.inr h
  generalize va_A (List.flatten [wT g, wS cT g 1 u_now, wS cT g 13 u_trial, wV cT g 21 13 u_trialSurvey]) s.heap.size = A at hD hZ hA ⊢
  have hS : va_S A s.heap s.heap [] := va_S.rf
  have hl := lv_entry ([.ref (g 0), .int p0, .int p1, .int p2]) (n := 5) (Nat.le_of_ble_eq_true rfl)
  rw [hav]
  rw [lg_entry_eq]
  generalize (lg_sl ([.ref (g 0), .int p0, .int p1, .int p2]) ++ List.replicate (5 - (lg_sl ([.ref (g 0), .int p0, .int p1, .int p2])).length) Slot.unset).toArray = ls at hl ⊢
  have hl : lv_has ls 5 [(0, .ref (g 0)), (1, .int p0), (2, .int p1), (3, .int p2)] := hl
  rw [← hav]
  generalize hQ : MQ below _ _ _ _ _ _ = Q
  show W p l e rm_X4_trainsUntil s m args below meth c s.heap [] 0 0 Q (F0 m 0 ls [])
  unfold f_X4_trainsUntil at hf
  refine lv_iload_n hx hb dX4_trainsUntil_0 rfl (lv_at hl 1 rfl) ?_
  refine lv_iload_n hx hb dX4_trainsUntil_1 rfl (lv_at hl 2 rfl) ?_
  obtain ⟨o22, ho22, hf⟩ := bd_i hf
  refine cl_i [] [0, 1, 2, 3] [wT g, wS cT g 1 u_now, wS cT g 13 u_trial, wV cT g 21 13 u_trialSurvey] hP (va_D_adr hD rfl) hA hS (va_runS (As := [.int p0, .int p1]) (rest := []) ⟨hx, hb, hml, hown, hts⟩ (c_X4_isTrain l D cT g  fu  p0 p1 o22 ho22 _) (va_cwS 2 hts gX4_trainsUntil_X4_isTrain rfl rfl rfl (by decide +kernel) ⟨Nat.le_of_ble_eq_true rfl, Nat.le_of_ble_eq_true rfl⟩) ⟨PRE_blind, PRE_ok [] (by decide) hP (va_D_adr hD rfl) hA hS hK hN hZ⟩ rfl rfl hl.1 rfl (lv_room (Nat.le_of_ble_eq_true rfl)) dX4_trainsUntil_2 ⟨Nat.le_of_ble_eq_true rfl, Nat.le_of_ble_eq_true rfl⟩) rfl 4 rfl (by decide) (by decide) (fun H locs hP hS => ?_)
  refine lv_if_eq (tgt := 17) hx hb dX4_trainsUntil_5 (by decide) (fun c23 => ?_) (fun c23 => ?_)
  · replace hf := it_t hf c23
    refine lv_ldc (v := -100001) hx hb hown (hts (.constant RX4 57 (-100001)) (List.mem_of_getElem? (i := 1) rfl)) dX4_trainsUntil_17 ?_
    obtain rfl := Option.some.inj hf
    subst hQ
    exact en_i hx hb hr hP hS hlocks dX4_trainsUntil_19
  · replace hf := it_f hf c23
    refine lv_iload_n hx hb dX4_trainsUntil_8 rfl (lv_at hl 3 rfl) ?_
    refine lv_iconst (v := 1) hx hb dX4_trainsUntil_9 (by decide) ?_
    refine lv_iconst (v := 3) hx hb dX4_trainsUntil_10 (by decide) ?_
    obtain ⟨o24, ho24, hf⟩ := bd_i hf
    refine cl_i [] [0, 1, 2, 3] [wT g, wS cT g 1 u_now, wS cT g 13 u_trial, wV cT g 21 13 u_trialSurvey] hP (va_D_adr hD rfl) hA hS (va_runS (As := [.int p2, .int ((1 : Int32)), .int ((3 : Int32))]) (rest := []) ⟨hx, hb, hml, hown, hts⟩ (c_X4_isWithin l D cT g  fu  p2 ((1 : Int32)) ((3 : Int32)) o24 ho24 _) (va_cwS 3 hts gX4_trainsUntil_X4_isWithin rfl rfl rfl (by decide +kernel) ⟨Nat.le_of_ble_eq_true rfl, Nat.le_of_ble_eq_true rfl⟩) ⟨PRE_blind, PRE_ok [] (by decide) hP (va_D_adr hD rfl) hA hS hK hN hZ⟩ rfl rfl hl.1 rfl (lv_room (Nat.le_of_ble_eq_true rfl)) dX4_trainsUntil_11 ⟨Nat.le_of_ble_eq_true rfl, Nat.le_of_ble_eq_true rfl⟩) rfl 4 rfl (by decide) (by decide) (fun H locs hP hS => ?_)
    refine lv_if_ne (tgt := 20) hx hb dX4_trainsUntil_14 (by decide) (fun c25 => ?_) (fun c25 => ?_)
    · replace hf := it_t hf c25
      refine lv_aload_n hx hb dX4_trainsUntil_20 rfl (lv_at hl 0 rfl) ?_
      refine va_get (ci := 4) (v := .ref (g 13)) (C := RX4) (T := TX4) (N := 8) hx hb hts iw_X4_trainsUntil_X4 hown hK hP 0 rfl rfl 2 (by decide) (hts (.fieldLink RX4 25 "BallastTrack" "trial" "LBallastTrack$State;") (List.mem_of_getElem? (i := 2) rfl)) (fun _ h9 => h9) rfl dX4_trainsUntil_21 ?_
      refine lv_aload_n hx hb dX4_trainsUntil_24 rfl (lv_at hl 0 rfl) ?_
      refine va_get (ci := 4) (v := .ref (g 1)) (C := RX4) (T := TX4) (N := 8) hx hb hts iw_X4_trainsUntil_X4 hown hK hP 0 rfl rfl 0 (by decide) (hts (.fieldLink RX4 10 "BallastTrack" "now" "LBallastTrack$State;") (List.mem_of_getElem? (i := 3) rfl)) (fun _ h9 => h9) rfl dX4_trainsUntil_25 ?_
      obtain ⟨o26, ho26, hf⟩ := bd_i hf
      refine cl_v [2, 1] [0, 3] [wT g, wS cT g 1 u_now, wS cT g 13 o26, wV cT g 21 13 u_trialSurvey] hP (va_D_adr hD rfl) hA hS (va_runV (As := [.ref (g 1)]) (rest := []) ⟨hx, hb, hml, hown, hts⟩ (c_X1_copyFrom l D cT g 13 1 fu u_trial u_now  o26 ho26 _) (cwV 1 hts gX4_trainsUntil_X1_copyFrom rfl rfl rfl (by decide +kernel) ⟨Nat.le_of_ble_eq_true rfl, Nat.le_of_ble_eq_true rfl⟩) ⟨PRE_blind, va_recv hK hP (ci := 1) (q0 := 9) rfl rfl, PRE_ok [2, 1] (by decide) hP (va_D_adr hD rfl) hA hS hK hN hZ⟩ rfl rfl hl.1 rfl (lv_room (Nat.le_of_ble_eq_true rfl)) dX4_trainsUntil_28 ⟨Nat.le_of_ble_eq_true rfl, Nat.le_of_ble_eq_true rfl⟩) rfl 4 rfl (by decide) (by decide) (fun H locs hP hS => ?_)
      refine lv_aload_n hx hb dX4_trainsUntil_31 rfl (lv_at hl 0 rfl) ?_
      refine va_get (ci := 4) (v := .ref (g 21)) (C := RX4) (T := TX4) (N := 8) hx hb hts iw_X4_trainsUntil_X4 hown hK hP 0 rfl rfl 3 (by decide) (hts (.fieldLink RX4 28 "BallastTrack" "trialSurvey" "LBallastTrack$Survey;") (List.mem_of_getElem? (i := 4) rfl)) (fun _ h9 => h9) rfl dX4_trainsUntil_32 ?_
      obtain ⟨o27, ho27, hf⟩ := bd_i hf
      refine cl_v [3, 2] [0, 1] [wT g, wS cT g 1 u_now, wS cT g 13 o26, wV cT g 21 13 o27] hP (va_D_adr hD rfl) hA hS (va_runV (As := []) (rest := []) ⟨hx, hb, hml, hown, hts⟩ (c_X2_look l D cT g 21 13 fu u_trialSurvey o26  o27 ho27 _) (cwV 0 hts gX4_trainsUntil_X2_look rfl rfl rfl (by decide +kernel) ⟨Nat.le_of_ble_eq_true rfl, Nat.le_of_ble_eq_true rfl⟩) ⟨PRE_blind, va_recv hK hP (ci := 2) (q0 := 17) rfl rfl, PRE_ok [3, 2] (by decide) hP (va_D_adr hD rfl) hA hS hK hN hZ⟩ rfl rfl hl.1 rfl (lv_room (Nat.le_of_ble_eq_true rfl)) dX4_trainsUntil_35 ⟨Nat.le_of_ble_eq_true rfl, Nat.le_of_ble_eq_true rfl⟩) rfl 4 rfl (by decide) (by decide) (fun H locs hP hS => ?_)
      refine lv_iconst (v := 0) hx hb dX4_trainsUntil_38 (by decide) ?_
      refine lv_istore (lv' := [(4, .int ((0 : Int32))), (0, .ref (g 0)), (1, .int p0), (2, .int p1), (3, .int p2)]) hx hb dX4_trainsUntil_39 hl (by decide) rfl (fun ls hl => ?_)
      obtain ⟨z41, hz41, hf⟩ := bd_i hf
      have hL41 : ∀ (n : Nat) (v37 : Int32) (u38 : TS) (u39 : TV) (z40 : Int32 × TS × TV), lf_X4_trainsUntil_41 fu p0 p1 p2 n v37 u38 u39 = some z40 → ∀ (H : Heap) (locs : List Loc) (ls : Array Slot), va_P D vwCl (List.flatten [wT g, wS cT g 1 u_now, wS cT g 13 u38, wV cT g 21 13 u39]) H → va_S A s.heap H locs → lv_has ls 5 [(0, .ref (g 0)), (1, .int p0), (2, .int p1), (3, .int p2), (4, .int v37)] → (∀ (H : Heap) (locs : List Loc) (ls : Array Slot), va_P D vwCl (List.flatten [wT g, wS cT g 1 u_now, wS cT g 13 z40.2.1, wV cT g 21 13 z40.2.2]) H → va_S A s.heap H locs → lv_has ls 5 [(0, .ref (g 0)), (3, .int p2), (4, .int z40.1)] → W p l e rm_X4_trainsUntil s m args below meth c H locs 0 0 Q (F0 m 75 ls [])) → W p l e rm_X4_trainsUntil s m args below meth c H locs 0 0 Q (F0 m 41 ls []) := by
        refine lq_3_ind (F := lb_X4_trainsUntil_41 fu p0 p1 p2) (fun rec ih v37 u38 u39 z40 hf H locs ls hP hS hl kx => ?_)
        unfold lb_X4_trainsUntil_41 at hf
        refine lv_iload hx hb dX4_trainsUntil_41 (lv_at hl 4 rfl) ?_
        refine lv_sipush (v := 200) hx hb dX4_trainsUntil_43 (by decide) ?_
        refine lv_icmp_ge (tgt := 75) hx hb dX4_trainsUntil_46 (by decide) (fun c42 => ?_) (fun c42 => ?_)
        · replace hf := it_t hf c42
          obtain rfl := Option.some.inj hf
          exact kx _ _ _ hP hS (lv_sub hl [0, 3, 4] rfl)
        · replace hf := it_f hf c42
          refine lv_aload_n hx hb dX4_trainsUntil_49 rfl (lv_at hl 0 rfl) ?_
          refine va_get (ci := 4) (v := .ref (g 21)) (C := RX4) (T := TX4) (N := 8) hx hb hts iw_X4_trainsUntil_X4 hown hK hP 0 rfl rfl 3 (by decide) (hts (.fieldLink RX4 28 "BallastTrack" "trialSurvey" "LBallastTrack$Survey;") (List.mem_of_getElem? (i := 4) rfl)) (fun _ h9 => h9) rfl dX4_trainsUntil_50 ?_
          refine va_get (ci := 2) (v := .int (V_od u39)) (C := RX2) (T := TX2) (N := 8) hx hb hts iw_X4_trainsUntil_X2 hown hK hP 17 rfl rfl 7 (by decide) (hts (.fieldLink RX4 143 "BallastTrack$Survey" "order" "I") (List.mem_of_getElem? (i := 5) rfl)) (fun _ h9 => h9) rfl dX4_trainsUntil_53 ?_
          refine lv_topi (fun x43 ex43 => ?_)
          replace hf := nm_i hf ex43
          refine lv_iload_n hx hb dX4_trainsUntil_56 rfl (lv_at hl 3 rfl) ?_
          refine lv_icmp_ge (tgt := 75) hx hb dX4_trainsUntil_57 (by decide) (fun c44 => ?_) (fun c44 => ?_)
          · replace hf := it_t hf c44
            obtain rfl := Option.some.inj hf
            exact kx _ _ _ hP hS (lv_sub hl [0, 3, 4] rfl)
          · replace hf := it_f hf c44
            refine lv_aload_n hx hb dX4_trainsUntil_60 rfl (lv_at hl 0 rfl) ?_
            refine va_get (ci := 4) (v := .ref (g 21)) (C := RX4) (T := TX4) (N := 8) hx hb hts iw_X4_trainsUntil_X4 hown hK hP 0 rfl rfl 3 (by decide) (hts (.fieldLink RX4 28 "BallastTrack" "trialSurvey" "LBallastTrack$Survey;") (List.mem_of_getElem? (i := 4) rfl)) (fun _ h9 => h9) rfl dX4_trainsUntil_61 ?_
            refine lv_iload_n hx hb dX4_trainsUntil_64 rfl (lv_at hl 1 rfl) ?_
            refine lv_iload_n hx hb dX4_trainsUntil_65 rfl (lv_at hl 2 rfl) ?_
            obtain ⟨o45, ho45, hf⟩ := bd_i hf
            refine cl_v [3, 2] [0, 1] [wT g, wS cT g 1 u_now, wS cT g 13 o45.2, wV cT g 21 13 o45.1] hP (va_D_adr hD rfl) hA hS (va_runS (As := [.ref (g 21), .int p0, .int p1]) (rest := []) ⟨hx, hb, hml, hown, hts⟩ (c_X4_passTrain l D cT g 21 13 fu u39 u38 p0 p1 o45 ho45 _) (va_cwS 3 hts gX4_trainsUntil_X4_passTrain rfl rfl rfl (by decide +kernel) ⟨Nat.le_of_ble_eq_true rfl, Nat.le_of_ble_eq_true rfl⟩) ⟨PRE_blind, PRE_ok [3, 2] (by decide) hP (va_D_adr hD rfl) hA hS hK hN hZ⟩ rfl rfl hl.1 rfl (lv_room (Nat.le_of_ble_eq_true rfl)) dX4_trainsUntil_66 ⟨Nat.le_of_ble_eq_true rfl, Nat.le_of_ble_eq_true rfl⟩) rfl 4 rfl (by decide) (by decide) (fun H locs hP hS => ?_)
            obtain ⟨x46, ex46⟩ : ∃ z : Int32, z = v37 + (1 : Int32) := ⟨_, rfl⟩
            replace hf := nm_i hf ex46
            refine lv_iinc (v := x46) (lv' := [(4, .int x46), (0, .ref (g 0)), (1, .int p0), (2, .int p1), (3, .int p2)]) hx hb dX4_trainsUntil_69 hl (k := 4) rfl (by rw [ex46]; rfl) (by decide) rfl (fun ls hl => ?_)
            refine lv_goto (tgt := 41) hx hb dX4_trainsUntil_72 (by decide) ?_
            exact ih _ _ _ _ hf _ _ _ hP hS (lv_sub hl [1, 2, 3, 4, 0] rfl) kx
      refine hL41 fu _ _ _ _ hz41 _ _ _ hP hS (lv_sub hl [1, 2, 3, 4, 0] rfl) (fun H locs ls hP hS hl => ?_)
      refine lv_aload_n hx hb dX4_trainsUntil_75 rfl (lv_at hl 0 rfl) ?_
      refine va_get (ci := 4) (v := .ref (g 21)) (C := RX4) (T := TX4) (N := 8) hx hb hts iw_X4_trainsUntil_X4 hown hK hP 0 rfl rfl 3 (by decide) (hts (.fieldLink RX4 28 "BallastTrack" "trialSurvey" "LBallastTrack$Survey;") (List.mem_of_getElem? (i := 4) rfl)) (fun _ h9 => h9) rfl dX4_trainsUntil_76 ?_
      refine va_get (ci := 2) (v := .int (V_od z41.2.2)) (C := RX2) (T := TX2) (N := 8) hx hb hts iw_X4_trainsUntil_X2 hown hK hP 17 rfl rfl 7 (by decide) (hts (.fieldLink RX4 143 "BallastTrack$Survey" "order" "I") (List.mem_of_getElem? (i := 5) rfl)) (fun _ h9 => h9) rfl dX4_trainsUntil_79 ?_
      refine lv_topi (fun x47 ex47 => ?_)
      replace hf := nm_i hf ex47
      refine lv_iload_n hx hb dX4_trainsUntil_82 rfl (lv_at hl 1 rfl) ?_
      refine lv_icmp_lt (tgt := 91) hx hb dX4_trainsUntil_83 (by decide) (fun c48 => ?_) (fun c48 => ?_)
      · replace hf := it_t hf c48
        refine lv_ldc (v := -100009) hx hb hown (hts (.constant RX4 175 (-100009)) (List.mem_of_getElem? (i := 6) rfl)) dX4_trainsUntil_91 ?_
        obtain rfl := Option.some.inj hf
        subst hQ
        exact en_i hx hb hr hP hS hlocks dX4_trainsUntil_93
      · replace hf := it_f hf c48
        refine lv_iload hx hb dX4_trainsUntil_86 (lv_at hl 2 rfl) ?_
        refine lv_goto (tgt := 93) hx hb dX4_trainsUntil_88 (by decide) ?_
        obtain rfl := Option.some.inj hf
        subst hQ
        exact en_i hx hb hr hP hS hlocks dX4_trainsUntil_93
    · replace hf := it_f hf (not_not_intro c25)
      refine lv_ldc (v := -100001) hx hb hown (hts (.constant RX4 57 (-100001)) (List.mem_of_getElem? (i := 1) rfl)) dX4_trainsUntil_17 ?_
      obtain rfl := Option.some.inj hf
      subst hQ
      exact en_i hx hb hr hP hS hlocks dX4_trainsUntil_19
