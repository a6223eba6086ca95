theorem iw_X4_trainsUntil_X2 : ∀ w ∈ u_ws RX2 TX2 8, w ∈ wsX4_trainsUntil := by decide +kernel
theorem iw_X4_trainsUntil_X4 : ∀ w ∈ u_ws RX4 TX4 8, w ∈ wsX4_trainsUntil := by decide +kernel
def lb_X4_trainsUntil_41 (fu : Nat) (p0 : Int32) (p1 : Int32) (p2 : Int32) (rec : Int32 → TS → TV → Option (Int32 × TS × TV)) (v37 : Int32) (u38 : TS) (u39 : TV) : Option (Int32 × TS × TV) :=
if (200 : Int32) ≤ v37 then (
some (v37, u38, u39)
)
else (
nm (V_od u39) fun (x43 : Int32) =>
if p2 ≤ x43 then (
some (v37, u38, u39)
)
else (
bd (f_X4_passTrain fu u39 u38 p0 p1) fun (o45 : TV × TS) =>
nm (v37 + (1 : Int32)) fun (x46 : Int32) =>
rec x46 o45.2 o45.1
)
)

def lf_X4_trainsUntil_41 (fu : Nat) (p0 : Int32) (p1 : Int32) (p2 : Int32) : Nat → Int32 → TS → TV → Option (Int32 × TS × TV) := lq_3 (lb_X4_trainsUntil_41 fu p0 p1 p2)
def f_X4_trainsUntil (fu : Nat) (u_now : TS) (u_trial : TS) (u_trialSurvey : TV) (p0 : Int32) (p1 : Int32) (p2 : Int32) : Option (Int32 × TS × TV) :=
bd (f_X4_isTrain fu  p0 p1) fun (o22 : Bool) =>
if bI o22 = 0 then (
some ((-100001 : Int32), u_trial, u_trialSurvey)
)
else (
bd (f_X4_isWithin fu  p2 ((1 : Int32)) ((3 : Int32))) fun (o24 : Bool) =>
if ¬ bI o24 = 0 then (
bd (f_X1_copyFrom fu u_trial u_now ) fun (o26 : TS) =>
bd (f_X2_look fu u_trialSurvey o26 ) fun (o27 : TV) =>
bd (lf_X4_trainsUntil_41 fu p0 p1 p2 fu ((0 : Int32)) o26 o27) fun (z41 : Int32 × TS × TV) =>
nm (V_od z41.2.2) fun (x47 : Int32) =>
if x47 < p2 then (
some ((-100009 : Int32), z41.2.1, z41.2.2)
)
else (
some (z41.1, z41.2.1, z41.2.2)
)
)
else (
some ((-100001 : Int32), u_trial, u_trialSurvey)
)
)

abbrev rm_X4_trainsUntil : Room := { frames := 5, cells := 0, slots := 0, locals := 110 }
set_option maxHeartbeats 4000000 in
set_option maxRecDepth 100000 in
theorem c_X4_trainsUntil (l : Launch) (D : va_G) (cT : Nat → ClassId) (g : Nat → Nat) (fu : Nat) (u_now : TS) (u_trial : TS) (u_trialSurvey : TV) (p0 : Int32) (p1 : Int32) (p2 : Int32) (o : Int32 × TS × TV) (hf : f_X4_trainsUntil fu u_now u_trial u_trialSurvey p0 p1 p2 = some o) (sz : Nat) : Met l yX4_trainsUntil wsX4_trainsUntil rm_X4_trainsUntil (va_Pc [.ref (g 0), .int p0, .int p1, .int p2] (PRE D cT sz (List.flatten [wT g, wS cT g 1 u_now, wS cT g 13 u_trial, wV cT g 21 13 u_trialSurvey]))) (QI D o.1 (List.flatten [wT g, wS cT g 1 u_now, wS cT g 13 o.2.1, wV cT g 21 13 o.2.2]) (va_A (List.flatten [wT g, wS cT g 1 u_now, wS cT g 13 u_trial, wV cT g 21 13 u_trialSurvey]) sz)) 0 0 (va_A (List.flatten [wT g, wS cT g 1 u_now, wS cT g 13 u_trial, wV cT g 21 13 u_trialSurvey]) sz) := by
  refine Met.ofW (cc := cX4_trainsUntil) (maxL := 5) (ret := (some .int)) (by decide) rfl ?_
  intro p e s m args below meth c s₁ B0 hml hv
  obtain ⟨hav, hsz, hP, hK, hD, hN, hZ⟩ := hv
  have hx := B0.exec
  have hb := B0.bytes
  have hr := B0.returns
  have hts := atoms_spec (ws := wsX4_trainsUntil) B0.pre
  have hown : s.vm.findClass RX4 = some m.cls := findClass_of_methodNamed B0.named
  have hlocks := B0.notSynchronized
  subst hsz
  have hD := hD.self (sz := s.heap.size)
  have hA : ∀ q : Nat, s.heap.size ≤ q → va_A (List.flatten [wT g, wS cT g 1 u_now, wS cT g 13 u_trial, wV cT g 21 13 u_trialSurvey]) s.heap.size q := fun q h => Or.inr h
  generalize va_A (List.flatten [wT g, wS cT g 1 u_now, wS cT g 13 u_trial, wV cT g 21 13 u_trialSurvey]) s.heap.size = A at hD hZ hA ⊢
  have hS : va_S A s.heap s.heap [] := va_S.rf
  have hl := lv_entry ([.ref (g 0), .int p0, .int p1, .int p2]) (n := 5) (Nat.le_of_ble_eq_true rfl)
  rw [hav]
  rw [lg_entry_eq]
  generalize (lg_sl ([.ref (g 0), .int p0, .int p1, .int p2]) ++ List.replicate (5 - (lg_sl ([.ref (g 0), .int p0, .int p1, .int p2])).length) Slot.unset).toArray = ls at hl ⊢
  have hl : lv_has ls 5 [(0, .ref (g 0)), (1, .int p0), (2, .int p1), (3, .int p2)] := hl
  rw [← hav]
  generalize hQ : MQ below _ _ _ _ _ _ = Q
  show W p l e rm_X4_trainsUntil s m args below meth c s.heap [] 0 0 Q (F0 m 0 ls [])
  unfold f_X4_trainsUntil at hf
  refine lv_iload_n hx hb dX4_trainsUntil_0 rfl (lv_at hl 1 rfl) ?_
  refine lv_iload_n hx hb dX4_trainsUntil_1 rfl (lv_at hl 2 rfl) ?_
  obtain ⟨o22, ho22, hf⟩ := bd_i hf
  refine cl_i [] [0, 1, 2, 3] [wT g, wS cT g 1 u_now, wS cT g 13 u_trial, wV cT g 21 13 u_trialSurvey] hP (va_D_adr hD rfl) hA hS (va_runS (As := [.int p0, .int p1]) (rest := []) ⟨hx, hb, hml, hown, hts⟩ (c_X4_isTrain l D cT g  fu  p0 p1 o22 ho22 _) (va_cwS 2 hts gX4_trainsUntil_X4_isTrain rfl rfl rfl (by decide +kernel) ⟨Nat.le_of_ble_eq_true rfl, Nat.le_of_ble_eq_true rfl⟩) ⟨PRE_blind, PRE_ok [] (by decide) hP (va_D_adr hD rfl) hA hS hK hN hZ⟩ rfl rfl hl.1 rfl (lv_room (Nat.le_of_ble_eq_true rfl)) dX4_trainsUntil_2 ⟨Nat.le_of_ble_eq_true rfl, Nat.le_of_ble_eq_true rfl⟩) rfl 4 rfl (by decide) (by decide) (fun H locs hP hS => ?_)
  refine lv_if_eq (tgt := 17) hx hb dX4_trainsUntil_5 (by decide) (fun c23 => ?_) (fun c23 => ?_)
  · replace hf := it_t hf c23
    refine lv_ldc (v := -100001) hx hb hown (hts (.constant RX4 57 (-100001)) (List.mem_of_getElem? (i := 1) rfl)) dX4_trainsUntil_17 ?_
    obtain rfl := Option.some.inj hf
    subst hQ
    exact en_i hx hb hr hP hS hlocks dX4_trainsUntil_19
  · replace hf := it_f hf c23
    refine lv_iload_n hx hb dX4_trainsUntil_8 rfl (lv_at hl 3 rfl) ?_
    refine lv_iconst (v := 1) hx hb dX4_trainsUntil_9 (by decide) ?_
    refine lv_iconst (v := 3) hx hb dX4_trainsUntil_10 (by decide) ?_
    obtain ⟨o24, ho24, hf⟩ := bd_i hf
    refine cl_i [] [0, 1, 2, 3] [wT g, wS cT g 1 u_now, wS cT g 13 u_trial, wV cT g 21 13 u_trialSurvey] hP (va_D_adr hD rfl) hA hS (va_runS (As := [.int p2, .int ((1 : Int32)), .int ((3 : Int32))]) (rest := []) ⟨hx, hb, hml, hown, hts⟩ (c_X4_isWithin l D cT g  fu  p2 ((1 : Int32)) ((3 : Int32)) o24 ho24 _) (va_cwS 3 hts gX4_trainsUntil_X4_isWithin rfl rfl rfl (by decide +kernel) ⟨Nat.le_of_ble_eq_true rfl, Nat.le_of_ble_eq_true rfl⟩) ⟨PRE_blind, PRE_ok [] (by decide) hP (va_D_adr hD rfl) hA hS hK hN hZ⟩ rfl rfl hl.1 rfl (lv_room (Nat.le_of_ble_eq_true rfl)) dX4_trainsUntil_11 ⟨Nat.le_of_ble_eq_true rfl, Nat.le_of_ble_eq_true rfl⟩) rfl 4 rfl (by decide) (by decide) (fun H locs hP hS => ?_)
    refine lv_if_ne (tgt := 20) hx hb dX4_trainsUntil_14 (by decide) (fun c25 => ?_) (fun c25 => ?_)
    · replace hf := it_t hf c25
      refine lv_aload_n hx hb dX4_trainsUntil_20 rfl (lv_at hl 0 rfl) ?_
      refine va_get (ci := 4) (v := .ref (g 13)) (C := RX4) (T := TX4) (N := 8) hx hb hts iw_X4_trainsUntil_X4 hown hK hP 0 rfl rfl 2 (by decide) (hts (.fieldLink RX4 25 "BallastTrack" "trial" "LBallastTrack$State;") (List.mem_of_getElem? (i := 2) rfl)) (fun _ h9 => h9) rfl dX4_trainsUntil_21 ?_
      refine lv_aload_n hx hb dX4_trainsUntil_24 rfl (lv_at hl 0 rfl) ?_
      refine va_get (ci := 4) (v := .ref (g 1)) (C := RX4) (T := TX4) (N := 8) hx hb hts iw_X4_trainsUntil_X4 hown hK hP 0 rfl rfl 0 (by decide) (hts (.fieldLink RX4 10 "BallastTrack" "now" "LBallastTrack$State;") (List.mem_of_getElem? (i := 3) rfl)) (fun _ h9 => h9) rfl dX4_trainsUntil_25 ?_
      obtain ⟨o26, ho26, hf⟩ := bd_i hf
      refine cl_v [2, 1] [0, 3] [wT g, wS cT g 1 u_now, wS cT g 13 o26, wV cT g 21 13 u_trialSurvey] hP (va_D_adr hD rfl) hA hS (va_runV (As := [.ref (g 1)]) (rest := []) ⟨hx, hb, hml, hown, hts⟩ (c_X1_copyFrom l D cT g 13 1 fu u_trial u_now  o26 ho26 _) (cwV 1 hts gX4_trainsUntil_X1_copyFrom rfl rfl rfl (by decide +kernel) ⟨Nat.le_of_ble_eq_true rfl, Nat.le_of_ble_eq_true rfl⟩) ⟨PRE_blind, va_recv hK hP (ci := 1) (q0 := 9) rfl rfl, PRE_ok [2, 1] (by decide) hP (va_D_adr hD rfl) hA hS hK hN hZ⟩ rfl rfl hl.1 rfl (lv_room (Nat.le_of_ble_eq_true rfl)) dX4_trainsUntil_28 ⟨Nat.le_of_ble_eq_true rfl, Nat.le_of_ble_eq_true rfl⟩) rfl 4 rfl (by decide) (by decide) (fun H locs hP hS => ?_)
      refine lv_aload_n hx hb dX4_trainsUntil_31 rfl (lv_at hl 0 rfl) ?_
      refine va_get (ci := 4) (v := .ref (g 21)) (C := RX4) (T := TX4) (N := 8) hx hb hts iw_X4_trainsUntil_X4 hown hK hP 0 rfl rfl 3 (by decide) (hts (.fieldLink RX4 28 "BallastTrack" "trialSurvey" "LBallastTrack$Survey;") (List.mem_of_getElem? (i := 4) rfl)) (fun _ h9 => h9) rfl dX4_trainsUntil_32 ?_
      obtain ⟨o27, ho27, hf⟩ := bd_i hf
      refine cl_v [3, 2] [0, 1] [wT g, wS cT g 1 u_now, wS cT g 13 o26, wV cT g 21 13 o27] hP (va_D_adr hD rfl) hA hS (va_runV (As := []) (rest := []) ⟨hx, hb, hml, hown, hts⟩ (c_X2_look l D cT g 21 13 fu u_trialSurvey o26  o27 ho27 _) (cwV 0 hts gX4_trainsUntil_X2_look rfl rfl rfl (by decide +kernel) ⟨Nat.le_of_ble_eq_true rfl, Nat.le_of_ble_eq_true rfl⟩) ⟨PRE_blind, va_recv hK hP (ci := 2) (q0 := 17) rfl rfl, PRE_ok [3, 2] (by decide) hP (va_D_adr hD rfl) hA hS hK hN hZ⟩ rfl rfl hl.1 rfl (lv_room (Nat.le_of_ble_eq_true rfl)) dX4_trainsUntil_35 ⟨Nat.le_of_ble_eq_true rfl, Nat.le_of_ble_eq_true rfl⟩) rfl 4 rfl (by decide) (by decide) (fun H locs hP hS => ?_)
      refine lv_iconst (v := 0) hx hb dX4_trainsUntil_38 (by decide) ?_
      refine lv_istore (lv' := [(4, .int ((0 : Int32))), (0, .ref (g 0)), (1, .int p0), (2, .int p1), (3, .int p2)]) hx hb dX4_trainsUntil_39 hl (by decide) rfl (fun ls hl => ?_)
      obtain ⟨z41, hz41, hf⟩ := bd_i hf
      have hL41 : ∀ (n : Nat) (v37 : Int32) (u38 : TS) (u39 : TV) (z40 : Int32 × TS × TV), lf_X4_trainsUntil_41 fu p0 p1 p2 n v37 u38 u39 = some z40 → ∀ (H : Heap) (locs : List Loc) (ls : Array Slot), va_P D vwCl (List.flatten [wT g, wS cT g 1 u_now, wS cT g 13 u38, wV cT g 21 13 u39]) H → va_S A s.heap H locs → lv_has ls 5 [(0, .ref (g 0)), (1, .int p0), (2, .int p1), (3, .int p2), (4, .int v37)] → (∀ (H : Heap) (locs : List Loc) (ls : Array Slot), va_P D vwCl (List.flatten [wT g, wS cT g 1 u_now, wS cT g 13 z40.2.1, wV cT g 21 13 z40.2.2]) H → va_S A s.heap H locs → lv_has ls 5 [(0, .ref (g 0)), (3, .int p2), (4, .int z40.1)] → W p l e rm_X4_trainsUntil s m args below meth c H locs 0 0 Q (F0 m 75 ls [])) → W p l e rm_X4_trainsUntil s m args below meth c H locs 0 0 Q (F0 m 41 ls []) := by
        refine lq_3_ind (F := lb_X4_trainsUntil_41 fu p0 p1 p2) (fun rec ih v37 u38 u39 z40 hf H locs ls hP hS hl kx => ?_)
        unfold lb_X4_trainsUntil_41 at hf
        refine lv_iload hx hb dX4_trainsUntil_41 (lv_at hl 4 rfl) ?_
        refine lv_sipush (v := 200) hx hb dX4_trainsUntil_43 (by decide) ?_
        refine lv_icmp_ge (tgt := 75) hx hb dX4_trainsUntil_46 (by decide) (fun c42 => ?_) (fun c42 => ?_)
        · replace hf := it_t hf c42
          obtain rfl := Option.some.inj hf
          exact kx _ _ _ hP hS (lv_sub hl [0, 3, 4] rfl)
        · replace hf := it_f hf c42
          refine lv_aload_n hx hb dX4_trainsUntil_49 rfl (lv_at hl 0 rfl) ?_
          refine va_get (ci := 4) (v := .ref (g 21)) (C := RX4) (T := TX4) (N := 8) hx hb hts iw_X4_trainsUntil_X4 hown hK hP 0 rfl rfl 3 (by decide) (hts (.fieldLink RX4 28 "BallastTrack" "trialSurvey" "LBallastTrack$Survey;") (List.mem_of_getElem? (i := 4) rfl)) (fun _ h9 => h9) rfl dX4_trainsUntil_50 ?_
          refine va_get (ci := 2) (v := .int (V_od u39)) (C := RX2) (T := TX2) (N := 8) hx hb hts iw_X4_trainsUntil_X2 hown hK hP 17 rfl rfl 7 (by decide) (hts (.fieldLink RX4 143 "BallastTrack$Survey" "order" "I") (List.mem_of_getElem? (i := 5) rfl)) (fun _ h9 => h9) rfl dX4_trainsUntil_53 ?_
          refine lv_topi (fun x43 ex43 => ?_)
          replace hf := nm_i hf ex43
          refine lv_iload_n hx hb dX4_trainsUntil_56 rfl (lv_at hl 3 rfl) ?_
          refine lv_icmp_ge (tgt := 75) hx hb dX4_trainsUntil_57 (by decide) (fun c44 => ?_) (fun c44 => ?_)
          · replace hf := it_t hf c44
            obtain rfl := Option.some.inj hf
            exact kx _ _ _ hP hS (lv_sub hl [0, 3, 4] rfl)
          · replace hf := it_f hf c44
            refine lv_aload_n hx hb dX4_trainsUntil_60 rfl (lv_at hl 0 rfl) ?_
            refine va_get (ci := 4) (v := .ref (g 21)) (C := RX4) (T := TX4) (N := 8) hx hb hts iw_X4_trainsUntil_X4 hown hK hP 0 rfl rfl 3 (by decide) (hts (.fieldLink RX4 28 "BallastTrack" "trialSurvey" "LBallastTrack$Survey;") (List.mem_of_getElem? (i := 4) rfl)) (fun _ h9 => h9) rfl dX4_trainsUntil_61 ?_
            refine lv_iload_n hx hb dX4_trainsUntil_64 rfl (lv_at hl 1 rfl) ?_
            refine lv_iload_n hx hb dX4_trainsUntil_65 rfl (lv_at hl 2 rfl) ?_
            obtain ⟨o45, ho45, hf⟩ := bd_i hf
            refine cl_v [3, 2] [0, 1] [wT g, wS cT g 1 u_now, wS cT g 13 o45.2, wV cT g 21 13 o45.1] hP (va_D_adr hD rfl) hA hS (va_runS (As := [.ref (g 21), .int p0, .int p1]) (rest := []) ⟨hx, hb, hml, hown, hts⟩ (c_X4_passTrain l D cT g 21 13 fu u39 u38 p0 p1 o45 ho45 _) (va_cwS 3 hts gX4_trainsUntil_X4_passTrain rfl rfl rfl (by decide +kernel) ⟨Nat.le_of_ble_eq_true rfl, Nat.le_of_ble_eq_true rfl⟩) ⟨PRE_blind, PRE_ok [3, 2] (by decide) hP (va_D_adr hD rfl) hA hS hK hN hZ⟩ rfl rfl hl.1 rfl (lv_room (Nat.le_of_ble_eq_true rfl)) dX4_trainsUntil_66 ⟨Nat.le_of_ble_eq_true rfl, Nat.le_of_ble_eq_true rfl⟩) rfl 4 rfl (by decide) (by decide) (fun H locs hP hS => ?_)
            obtain ⟨x46, ex46⟩ : ∃ z : Int32, z = v37 + (1 : Int32) := ⟨_, rfl⟩
            replace hf := nm_i hf ex46
            refine lv_iinc (v := x46) (lv' := [(4, .int x46), (0, .ref (g 0)), (1, .int p0), (2, .int p1), (3, .int p2)]) hx hb dX4_trainsUntil_69 hl (k := 4) rfl (by rw [ex46]; rfl) (by decide) rfl (fun ls hl => ?_)
            refine lv_goto (tgt := 41) hx hb dX4_trainsUntil_72 (by decide) ?_
            exact ih _ _ _ _ hf _ _ _ hP hS (lv_sub hl [1, 2, 3, 4, 0] rfl) kx
      refine hL41 fu _ _ _ _ hz41 _ _ _ hP hS (lv_sub hl [1, 2, 3, 4, 0] rfl) (fun H locs ls hP hS hl => ?_)
      refine lv_aload_n hx hb dX4_trainsUntil_75 rfl (lv_at hl 0 rfl) ?_
      refine va_get (ci := 4) (v := .ref (g 21)) (C := RX4) (T := TX4) (N := 8) hx hb hts iw_X4_trainsUntil_X4 hown hK hP 0 rfl rfl 3 (by decide) (hts (.fieldLink RX4 28 "BallastTrack" "trialSurvey" "LBallastTrack$Survey;") (List.mem_of_getElem? (i := 4) rfl)) (fun _ h9 => h9) rfl dX4_trainsUntil_76 ?_
      refine va_get (ci := 2) (v := .int (V_od z41.2.2)) (C := RX2) (T := TX2) (N := 8) hx hb hts iw_X4_trainsUntil_X2 hown hK hP 17 rfl rfl 7 (by decide) (hts (.fieldLink RX4 143 "BallastTrack$Survey" "order" "I") (List.mem_of_getElem? (i := 5) rfl)) (fun _ h9 => h9) rfl dX4_trainsUntil_79 ?_
      refine lv_topi (fun x47 ex47 => ?_)
      replace hf := nm_i hf ex47
      refine lv_iload_n hx hb dX4_trainsUntil_82 rfl (lv_at hl 1 rfl) ?_
      refine lv_icmp_lt (tgt := 91) hx hb dX4_trainsUntil_83 (by decide) (fun c48 => ?_) (fun c48 => ?_)
      · replace hf := it_t hf c48
        refine lv_ldc (v := -100009) hx hb hown (hts (.constant RX4 175 (-100009)) (List.mem_of_getElem? (i := 6) rfl)) dX4_trainsUntil_91 ?_
        obtain rfl := Option.some.inj hf
        subst hQ
        exact en_i hx hb hr hP hS hlocks dX4_trainsUntil_93
      · replace hf := it_f hf c48
        refine lv_iload hx hb dX4_trainsUntil_86 (lv_at hl 2 rfl) ?_
        refine lv_goto (tgt := 93) hx hb dX4_trainsUntil_88 (by decide) ?_
        obtain rfl := Option.some.inj hf
        subst hQ
        exact en_i hx hb hr hP hS hlocks dX4_trainsUntil_93
    · replace hf := it_f hf (not_not_intro c25)
      refine lv_ldc (v := -100001) hx hb hown (hts (.constant RX4 57 (-100001)) (List.mem_of_getElem? (i := 1) rfl)) dX4_trainsUntil_17 ?_
      obtain rfl := Option.some.inj hf
      subst hQ
      exact en_i hx hb hr hP hS hlocks dX4_trainsUntil_19
theorem iw_X4_voidsWithRow_X1 : ∀ w ∈ u_ws RX1 TX1 9, w ∈ wsX4_voidsWithRow := by decide +kernel
theorem iw_X4_voidsWithRow_X4 : ∀ w ∈ u_ws RX4 TX4 8, w ∈ wsX4_voidsWithRow := by decide +kernel
def lb_X4_voidsWithRow_29 (fu : Nat) (p0 : Int32) (p1 : Int32) (p2 : Int32) (rec : Int32 → TS → Option (TS)) (v50 : Int32) (u51 : TS) : Option (TS) :=
nm (p0 + p1) fun (x54 : Int32) =>
if x54 ≤ v50 then (
some (u51)
)
else (
ix v50 60 <|
nm ((S_lv u51) v50.toNatClampNeg) fun (x57 : Int32) =>
bd (f_X1_liftOf fu u51 v50 p2) fun (o58 : Int32) =>
nm (x57 + o58) fun (x59 : Int32) =>
ix v50 60 <|
nm (S_lv_ u51 (upd (S_lv u51) v50.toNatClampNeg x59)) fun (u61 : TS) =>
nm (v50 + (1 : Int32)) fun (x62 : Int32) =>
rec x62 u61
)

def lf_X4_voidsWithRow_29 (fu : Nat) (p0 : Int32) (p1 : Int32) (p2 : Int32) : Nat → Int32 → TS → Option (TS) := lq_2 (lb_X4_voidsWithRow_29 fu p0 p1 p2)
def lb_X4_voidsWithRow_79 (fu : Nat) (z53 : TS) (o63 : TV) (rec : Int32 → Int32 → Option (Int32)) (v74 : Int32) (v75 : Int32) : Option (Int32) :=
nm (S_sl z53) fun (x78 : Int32) =>
if x78 ≤ v75 then (
some (v74)
)
else (
bd (f_X2_voidAt fu o63 z53 v75) fun (o80 : Int32) =>
nm (v74 + o80) fun (x81 : Int32) =>
nm (v75 + (1 : Int32)) fun (x82 : Int32) =>
rec x81 x82
)

def lf_X4_voidsWithRow_79 (fu : Nat) (z53 : TS) (o63 : TV) : Nat → Int32 → Int32 → Option (Int32) := lq_2 (lb_X4_voidsWithRow_79 fu z53 o63)
def f_X4_voidsWithRow (fu : Nat) (u_now : TS) (u_trial : TS) (u_trialSurvey : TV) (p0 : Int32) (p1 : Int32) (p2 : Int32) : Option (Int32 × TS × TV) :=
nm (S_sl u_now) fun (x34 : Int32) =>
rq (cpk ((0 : Int32)) ((0 : Int32)) x34 60 60) <|
nm (S_lv_ u_trial (va_cpy (S_lv u_now) (S_lv u_trial) ((0 : Int32)).toNatClampNeg ((0 : Int32)).toNatClampNeg x34.toNatClampNeg)) fun (u36 : TS) =>
bd (lf_X4_voidsWithRow_29 fu p0 p1 p2 fu p0 u36) fun (z53 : TS) =>
bd (f_X2_look fu u_trialSurvey z53 ) fun (o63 : TV) =>
bd (lf_X4_voidsWithRow_79 fu z53 o63 fu ((0 : Int32)) ((0 : Int32))) fun (z77 : Int32) =>
some (z77, z53, o63)

abbrev rm_X4_voidsWithRow : Room := { frames := 4, cells := 0, slots := 0, locals := 86 }
set_option maxHeartbeats 4000000 in
set_option maxRecDepth 100000 in
theorem c_X4_voidsWithRow (l : Launch) (D : va_G) (cT : Nat → ClassId) (g : Nat → Nat) (fu : Nat) (u_now : TS) (u_trial : TS) (u_trialSurvey : TV) (p0 : Int32) (p1 : Int32) (p2 : Int32) (o : Int32 × TS × TV) (hf : f_X4_voidsWithRow fu u_now u_trial u_trialSurvey p0 p1 p2 = some o) (sz : Nat) : Met l yX4_voidsWithRow wsX4_voidsWithRow rm_X4_voidsWithRow (va_Pc [.ref (g 0), .int p0, .int p1, .int p2] (PRE D cT sz (List.flatten [wT g, wS cT g 1 u_now, wS cT g 13 u_trial, wV cT g 21 13 u_trialSurvey]))) (QI D o.1 (List.flatten [wT g, wS cT g 1 u_now, wS cT g 13 o.2.1, wV cT g 21 13 o.2.2]) (va_A (List.flatten [wT g, wS cT g 1 u_now, wS cT g 13 u_trial, wV cT g 21 13 u_trialSurvey]) sz)) 0 0 (va_A (List.flatten [wT g, wS cT g 1 u_now, wS cT g 13 u_trial, wV cT g 21 13 u_trialSurvey]) sz) := by
  refine Met.ofW (cc := cX4_voidsWithRow) (maxL := 6) (ret := (some .int)) (by decide) rfl ?_
  intro p e s m args below meth c s₁ B0 hml hv
  obtain ⟨hav, hsz, hP, hK, hD, hN, hZ⟩ := hv
  have hx := B0.exec
  have hb := B0.bytes
  have hr := B0.returns
  have hts := atoms_spec (ws := wsX4_voidsWithRow) B0.pre
  have hown : s.vm.findClass RX4 = some m.cls := findClass_of_methodNamed B0.named
  have hlocks := B0.notSynchronized
  subst hsz
  have hD := hD.self (sz := s.heap.size)
  have hA : ∀ q : Nat, s.heap.size ≤ q → va_A (List.flatten [wT g, wS cT g 1 u_now, wS cT g 13 u_trial, wV cT g 21 13 u_trialSurvey]) s.heap.size q := fun q h => Or.inr h
  generalize va_A (List.flatten [wT g, wS cT g 1 u_now, wS cT g 13 u_trial, wV cT g 21 13 u_trialSurvey]) s.heap.size = A at hD hZ hA ⊢
  have hS : va_S A s.heap s.heap [] := va_S.rf
  have hl := lv_entry ([.ref (g 0), .int p0, .int p1, .int p2]) (n := 6) (Nat.le_of_ble_eq_true rfl)
  rw [hav]
  rw [lg_entry_eq]
  generalize (lg_sl ([.ref (g 0), .int p0, .int p1, .int p2]) ++ List.replicate (6 - (lg_sl ([.ref (g 0), .int p0, .int p1, .int p2])).length) Slot.unset).toArray = ls at hl ⊢
  have hl : lv_has ls 6 [(0, .ref (g 0)), (1, .int p0), (2, .int p1), (3, .int p2)] := hl
  rw [← hav]
  generalize hQ : MQ below _ _ _ _ _ _ = Q
  show W p l e rm_X4_voidsWithRow s m args below meth c s.heap [] 0 0 Q (F0 m 0 ls [])
  unfold f_X4_voidsWithRow at hf
  refine lv_aload_n hx hb dX4_voidsWithRow_0 rfl (lv_at hl 0 rfl) ?_
  refine va_get (ci := 4) (v := .ref (g 1)) (C := RX4) (T := TX4) (N := 8) hx hb hts iw_X4_voidsWithRow_X4 hown hK hP 0 rfl rfl 0 (by decide) (hts (.fieldLink RX4 10 "BallastTrack" "now" "LBallastTrack$State;") (List.mem_of_getElem? (i := 1) rfl)) (fun _ h9 => h9) rfl dX4_voidsWithRow_1 ?_
  refine va_get (ci := 1) (v := .ref (g (1 + 2))) (C := RX1) (T := TX1) (N := 9) hx hb hts iw_X4_voidsWithRow_X1 hown hK hP 1 rfl rfl 3 (by decide) (hts (.fieldLink RX4 87 "BallastTrack$State" "levels" "[I") (List.mem_of_getElem? (i := 2) rfl)) (fun _ h9 => h9) rfl dX4_voidsWithRow_4 ?_
  refine lv_iconst (v := 0) hx hb dX4_voidsWithRow_7 (by decide) ?_
  refine lv_aload_n hx hb dX4_voidsWithRow_8 rfl (lv_at hl 0 rfl) ?_
  refine va_get (ci := 4) (v := .ref (g 13)) (C := RX4) (T := TX4) (N := 8) hx hb hts iw_X4_voidsWithRow_X4 hown hK hP 0 rfl rfl 2 (by decide) (hts (.fieldLink RX4 25 "BallastTrack" "trial" "LBallastTrack$State;") (List.mem_of_getElem? (i := 3) rfl)) (fun _ h9 => h9) rfl dX4_voidsWithRow_9 ?_
  refine va_get (ci := 1) (v := .ref (g (13 + 2))) (C := RX1) (T := TX1) (N := 9) hx hb hts iw_X4_voidsWithRow_X1 hown hK hP 9 rfl rfl 3 (by decide) (hts (.fieldLink RX4 87 "BallastTrack$State" "levels" "[I") (List.mem_of_getElem? (i := 2) rfl)) (fun _ h9 => h9) rfl dX4_voidsWithRow_12 ?_
  refine lv_iconst (v := 0) hx hb dX4_voidsWithRow_15 (by decide) ?_
  refine lv_aload_n hx hb dX4_voidsWithRow_16 rfl (lv_at hl 0 rfl) ?_
  refine va_get (ci := 4) (v := .ref (g 1)) (C := RX4) (T := TX4) (N := 8) hx hb hts iw_X4_voidsWithRow_X4 hown hK hP 0 rfl rfl 0 (by decide) (hts (.fieldLink RX4 10 "BallastTrack" "now" "LBallastTrack$State;") (List.mem_of_getElem? (i := 1) rfl)) (fun _ h9 => h9) rfl dX4_voidsWithRow_17 ?_
  refine va_get (ci := 1) (v := .int (S_sl u_now)) (C := RX1) (T := TX1) (N := 9) hx hb hts iw_X4_voidsWithRow_X1 hown hK hP 1 rfl rfl 0 (by decide) (hts (.fieldLink RX4 58 "BallastTrack$State" "sleepers" "I") (List.mem_of_getElem? (i := 4) rfl)) (fun _ h9 => h9) rfl dX4_voidsWithRow_20 ?_
  refine lv_topi (fun x34 ex34 => ?_)
  replace hf := nm_i hf ex34
  obtain ⟨hq35, hf⟩ := rq_i hf
  obtain ⟨hq351, hq352, hq353, hq354, hq355⟩ := cpk_i hq35
  refine va_copyi hx hb (by rw [hml]; exact hl.1.symm) hown (hts (.methodLink RX4 228 arraycopyName) (List.mem_of_getElem? (i := 5) rfl)) (hts (.native arraycopyName) (List.mem_of_getElem? (i := 6) rfl)) (hts (.static arraycopyName) (List.mem_of_getElem? (i := 7) rfl)) (hts (.initialized "java/lang/System") (List.mem_of_getElem? (i := 8) rfl)) hK hP (va_D_adr hD rfl) hS 3 11 0 0 (ty := .int) rfl rfl rfl rfl rfl hq351 hq352 hq353 hq354 hq355 (fun _ _ => rfl) (Nat.le_of_ble_eq_true rfl) (Nat.le_of_ble_eq_true rfl) dX4_voidsWithRow_23 (fun H locs hP _ hS => ?_)
  obtain ⟨u36, eu36⟩ : ∃ z : TS, z = S_lv_ u_trial (va_cpy (S_lv u_now) (S_lv u_trial) ((0 : Int32)).toNatClampNeg ((0 : Int32)).toNatClampNeg x34.toNatClampNeg) := ⟨_, rfl⟩
  replace hf := nm_i hf eu36
  have hP : va_P D vwCl (List.flatten [wT g, wS cT g 1 u_now, wS cT g 13 u36, wV cT g 21 13 u_trialSurvey]) H := by rw [eu36]; exact hP
  refine lv_iload_n hx hb dX4_voidsWithRow_26 rfl (lv_at hl 1 rfl) ?_
  refine lv_istore (lv' := [(4, .int p0), (0, .ref (g 0)), (1, .int p0), (2, .int p1), (3, .int p2)]) hx hb dX4_voidsWithRow_27 hl (by decide) rfl (fun ls hl => ?_)
  obtain ⟨z53, hz53, hf⟩ := bd_i hf
  have hL29 : ∀ (n : Nat) (v50 : Int32) (u51 : TS) (z52 : TS), lf_X4_voidsWithRow_29 fu p0 p1 p2 n v50 u51 = some z52 → ∀ (H : Heap) (locs : List Loc) (ls : Array Slot), va_P D vwCl (List.flatten [wT g, wS cT g 1 u_now, wS cT g 13 u51, wV cT g 21 13 u_trialSurvey]) H → va_S A s.heap H locs → lv_has ls 6 [(0, .ref (g 0)), (1, .int p0), (2, .int p1), (3, .int p2), (4, .int v50)] → (∀ (H : Heap) (locs : List Loc) (ls : Array Slot), va_P D vwCl (List.flatten [wT g, wS cT g 1 u_now, wS cT g 13 z52, wV cT g 21 13 u_trialSurvey]) H → va_S A s.heap H locs → lv_has ls 6 [(0, .ref (g 0))] → W p l e rm_X4_voidsWithRow s m args below meth c H locs 0 0 Q (F0 m 66 ls [])) → W p l e rm_X4_voidsWithRow s m args below meth c H locs 0 0 Q (F0 m 29 ls []) := by
    refine lq_2_ind (F := lb_X4_voidsWithRow_29 fu p0 p1 p2) (fun rec ih v50 u51 z52 hf H locs ls hP hS hl kx => ?_)
    unfold lb_X4_voidsWithRow_29 at hf
    refine lv_iload hx hb dX4_voidsWithRow_29 (lv_at hl 4 rfl) ?_
    refine lv_iload_n hx hb dX4_voidsWithRow_31 rfl (lv_at hl 1 rfl) ?_
    refine lv_iload_n hx hb dX4_voidsWithRow_32 rfl (lv_at hl 2 rfl) ?_
    refine lv_iadd hx hb dX4_voidsWithRow_33 ?_
    refine lv_topi (fun x54 ex54 => ?_)
    replace hf := nm_i hf ex54
    refine lv_icmp_ge (tgt := 66) hx hb dX4_voidsWithRow_34 (by decide) (fun c55 => ?_) (fun c55 => ?_)
    · replace hf := it_t hf c55
      obtain rfl := Option.some.inj hf
      exact kx _ _ _ hP hS (lv_sub hl [0] rfl)
    · replace hf := it_f hf c55
      refine lv_aload_n hx hb dX4_voidsWithRow_37 rfl (lv_at hl 0 rfl) ?_
      refine va_get (ci := 4) (v := .ref (g 13)) (C := RX4) (T := TX4) (N := 8) hx hb hts iw_X4_voidsWithRow_X4 hown hK hP 0 rfl rfl 2 (by decide) (hts (.fieldLink RX4 25 "BallastTrack" "trial" "LBallastTrack$State;") (List.mem_of_getElem? (i := 3) rfl)) (fun _ h9 => h9) rfl dX4_voidsWithRow_38 ?_
      refine va_get (ci := 1) (v := .ref (g (13 + 2))) (C := RX1) (T := TX1) (N := 9) hx hb hts iw_X4_voidsWithRow_X1 hown hK hP 9 rfl rfl 3 (by decide) (hts (.fieldLink RX4 87 "BallastTrack$State" "levels" "[I") (List.mem_of_getElem? (i := 2) rfl)) (fun _ h9 => h9) rfl dX4_voidsWithRow_41 ?_
      refine lv_iload hx hb dX4_voidsWithRow_44 (lv_at hl 4 rfl) ?_
      refine lv_dup2_11 hx hb dX4_voidsWithRow_46 rfl rfl ?_
      obtain ⟨hi56, hf⟩ := ix_i hf
      refine va_iald hx hb hK hP 11 0 rfl rfl hi56 dX4_voidsWithRow_47 ?_
      refine lv_topi (fun x57 ex57 => ?_)
      replace hf := nm_i hf ex57
      refine lv_aload_n hx hb dX4_voidsWithRow_48 rfl (lv_at hl 0 rfl) ?_
      refine va_get (ci := 4) (v := .ref (g 13)) (C := RX4) (T := TX4) (N := 8) hx hb hts iw_X4_voidsWithRow_X4 hown hK hP 0 rfl rfl 2 (by decide) (hts (.fieldLink RX4 25 "BallastTrack" "trial" "LBallastTrack$State;") (List.mem_of_getElem? (i := 3) rfl)) (fun _ h9 => h9) rfl dX4_voidsWithRow_49 ?_
      refine lv_iload hx hb dX4_voidsWithRow_52 (lv_at hl 4 rfl) ?_
      refine lv_iload_n hx hb dX4_voidsWithRow_54 rfl (lv_at hl 3 rfl) ?_
      obtain ⟨o58, ho58, hf⟩ := bd_i hf
      refine cl_i [2] [0, 1, 3] [wT g, wS cT g 1 u_now, wS cT g 13 u51, wV cT g 21 13 u_trialSurvey] hP (va_D_adr hD rfl) hA hS (va_runV (As := [.int v50, .int p2]) (rest := [.int x57, .int v50, .ref (g (13 + 2))]) ⟨hx, hb, hml, hown, hts⟩ (c_X1_liftOf l D cT g 13 fu u51 v50 p2 o58 ho58 _) (cwV 2 hts gX4_voidsWithRow_X1_liftOf rfl rfl rfl (by decide +kernel) ⟨Nat.le_of_ble_eq_true rfl, Nat.le_of_ble_eq_true rfl⟩) ⟨PRE_blind, va_recv hK hP (ci := 1) (q0 := 9) rfl rfl, PRE_ok [2] (by decide) hP (va_D_adr hD rfl) hA hS hK hN hZ⟩ rfl rfl hl.1 rfl (lv_room (Nat.le_of_ble_eq_true rfl)) dX4_voidsWithRow_55 ⟨Nat.le_of_ble_eq_true rfl, Nat.le_of_ble_eq_true rfl⟩) rfl 4 rfl (by decide) (by decide) (fun H locs hP hS => ?_)
      refine lv_iadd hx hb dX4_voidsWithRow_58 ?_
      refine lv_topi (fun x59 ex59 => ?_)
      replace hf := nm_i hf ex59
      obtain ⟨hi60, hf⟩ := ix_i hf
      refine va_iast hx hb hK hP (va_D_adr hD rfl) hS 11 0 rfl rfl hi60 dX4_voidsWithRow_59 (fun H locs hP _ hS => ?_)
      obtain ⟨u61, eu61⟩ : ∃ z : TS, z = S_lv_ u51 (upd (S_lv u51) v50.toNatClampNeg x59) := ⟨_, rfl⟩
      replace hf := nm_i hf eu61
      have hP : va_P D vwCl (List.flatten [wT g, wS cT g 1 u_now, wS cT g 13 u61, wV cT g 21 13 u_trialSurvey]) H := by rw [eu61]; exact hP
      obtain ⟨x62, ex62⟩ : ∃ z : Int32, z = v50 + (1 : Int32) := ⟨_, rfl⟩
      replace hf := nm_i hf ex62
      refine lv_iinc (v := x62) (lv' := [(4, .int x62), (0, .ref (g 0)), (1, .int p0), (2, .int p1), (3, .int p2)]) hx hb dX4_voidsWithRow_60 hl (k := 4) rfl (by rw [ex62]; rfl) (by decide) rfl (fun ls hl => ?_)
      refine lv_goto (tgt := 29) hx hb dX4_voidsWithRow_63 (by decide) ?_
      exact ih _ _ _ hf _ _ _ hP hS (lv_sub hl [1, 2, 3, 4, 0] rfl) kx
  refine hL29 fu _ _ _ hz53 _ _ _ hP hS (lv_sub hl [1, 2, 3, 4, 0] rfl) (fun H locs ls hP hS hl => ?_)
  refine lv_aload_n hx hb dX4_voidsWithRow_66 rfl (lv_at hl 0 rfl) ?_
  refine va_get (ci := 4) (v := .ref (g 21)) (C := RX4) (T := TX4) (N := 8) hx hb hts iw_X4_voidsWithRow_X4 hown hK hP 0 rfl rfl 3 (by decide) (hts (.fieldLink RX4 28 "BallastTrack" "trialSurvey" "LBallastTrack$Survey;") (List.mem_of_getElem? (i := 9) rfl)) (fun _ h9 => h9) rfl dX4_voidsWithRow_67 ?_
  obtain ⟨o63, ho63, hf⟩ := bd_i hf
  refine cl_v [3, 2] [0, 1] [wT g, wS cT g 1 u_now, wS cT g 13 z53, wV cT g 21 13 o63] hP (va_D_adr hD rfl) hA hS (va_runV (As := []) (rest := []) ⟨hx, hb, hml, hown, hts⟩ (c_X2_look l D cT g 21 13 fu u_trialSurvey z53  o63 ho63 _) (cwV 0 hts gX4_voidsWithRow_X2_look rfl rfl rfl (by decide +kernel) ⟨Nat.le_of_ble_eq_true rfl, Nat.le_of_ble_eq_true rfl⟩) ⟨PRE_blind, va_recv hK hP (ci := 2) (q0 := 17) rfl rfl, PRE_ok [3, 2] (by decide) hP (va_D_adr hD rfl) hA hS hK hN hZ⟩ rfl rfl hl.1 rfl (lv_room (Nat.le_of_ble_eq_true rfl)) dX4_voidsWithRow_70 ⟨Nat.le_of_ble_eq_true rfl, Nat.le_of_ble_eq_true rfl⟩) rfl 4 rfl (by decide) (by decide) (fun H locs hP hS => ?_)
  refine lv_iconst (v := 0) hx hb dX4_voidsWithRow_73 (by decide) ?_
  refine lv_istore (lv' := [(4, .int ((0 : Int32))), (0, .ref (g 0))]) hx hb dX4_voidsWithRow_74 hl (by decide) rfl (fun ls hl => ?_)
  refine lv_iconst (v := 0) hx hb dX4_voidsWithRow_76 (by decide) ?_
  refine lv_istore (lv' := [(5, .int ((0 : Int32))), (4, .int ((0 : Int32))), (0, .ref (g 0))]) hx hb dX4_voidsWithRow_77 hl (by decide) rfl (fun ls hl => ?_)
  obtain ⟨z77, hz77, hf⟩ := bd_i hf
  have hL79 : ∀ (n : Nat) (v74 : Int32) (v75 : Int32) (z76 : Int32), lf_X4_voidsWithRow_79 fu z53 o63 n v74 v75 = some z76 → ∀ (H : Heap) (locs : List Loc) (ls : Array Slot), va_P D vwCl (List.flatten [wT g, wS cT g 1 u_now, wS cT g 13 z53, wV cT g 21 13 o63]) H → va_S A s.heap H locs → lv_has ls 6 [(0, .ref (g 0)), (4, .int v74), (5, .int v75)] → (∀ (H : Heap) (locs : List Loc) (ls : Array Slot), va_P D vwCl (List.flatten [wT g, wS cT g 1 u_now, wS cT g 13 z53, wV cT g 21 13 o63]) H → va_S A s.heap H locs → lv_has ls 6 [(4, .int z76)] → W p l e rm_X4_voidsWithRow s m args below meth c H locs 0 0 Q (F0 m 111 ls [])) → W p l e rm_X4_voidsWithRow s m args below meth c H locs 0 0 Q (F0 m 79 ls []) := by
    refine lq_2_ind (F := lb_X4_voidsWithRow_79 fu z53 o63) (fun rec ih v74 v75 z76 hf H locs ls hP hS hl kx => ?_)
    unfold lb_X4_voidsWithRow_79 at hf
    refine lv_iload hx hb dX4_voidsWithRow_79 (lv_at hl 2 rfl) ?_
    refine lv_aload_n hx hb dX4_voidsWithRow_81 rfl (lv_at hl 0 rfl) ?_
    refine va_get (ci := 4) (v := .ref (g 13)) (C := RX4) (T := TX4) (N := 8) hx hb hts iw_X4_voidsWithRow_X4 hown hK hP 0 rfl rfl 2 (by decide) (hts (.fieldLink RX4 25 "BallastTrack" "trial" "LBallastTrack$State;") (List.mem_of_getElem? (i := 3) rfl)) (fun _ h9 => h9) rfl dX4_voidsWithRow_82 ?_
    refine va_get (ci := 1) (v := .int (S_sl z53)) (C := RX1) (T := TX1) (N := 9) hx hb hts iw_X4_voidsWithRow_X1 hown hK hP 9 rfl rfl 0 (by decide) (hts (.fieldLink RX4 58 "BallastTrack$State" "sleepers" "I") (List.mem_of_getElem? (i := 4) rfl)) (fun _ h9 => h9) rfl dX4_voidsWithRow_85 ?_
    refine lv_topi (fun x78 ex78 => ?_)
    replace hf := nm_i hf ex78
    refine lv_icmp_ge (tgt := 111) hx hb dX4_voidsWithRow_88 (by decide) (fun c79 => ?_) (fun c79 => ?_)
    · replace hf := it_t hf c79
      obtain rfl := Option.some.inj hf
      exact kx _ _ _ hP hS (lv_sub hl [1] rfl)
    · replace hf := it_f hf c79
      refine lv_iload hx hb dX4_voidsWithRow_91 (lv_at hl 1 rfl) ?_
      refine lv_aload_n hx hb dX4_voidsWithRow_93 rfl (lv_at hl 0 rfl) ?_
      refine va_get (ci := 4) (v := .ref (g 21)) (C := RX4) (T := TX4) (N := 8) hx hb hts iw_X4_voidsWithRow_X4 hown hK hP 0 rfl rfl 3 (by decide) (hts (.fieldLink RX4 28 "BallastTrack" "trialSurvey" "LBallastTrack$Survey;") (List.mem_of_getElem? (i := 9) rfl)) (fun _ h9 => h9) rfl dX4_voidsWithRow_94 ?_
      refine lv_iload hx hb dX4_voidsWithRow_97 (lv_at hl 2 rfl) ?_
      obtain ⟨o80, ho80, hf⟩ := bd_i hf
      refine cl_i [3, 2] [0, 1] [wT g, wS cT g 1 u_now, wS cT g 13 z53, wV cT g 21 13 o63] hP (va_D_adr hD rfl) hA hS (va_runV (As := [.int v75]) (rest := [.int v74]) ⟨hx, hb, hml, hown, hts⟩ (c_X2_voidAt l D cT g 21 13 fu o63 z53 v75 o80 ho80 _) (cwV 1 hts gX4_voidsWithRow_X2_voidAt rfl rfl rfl (by decide +kernel) ⟨Nat.le_of_ble_eq_true rfl, Nat.le_of_ble_eq_true rfl⟩) ⟨PRE_blind, va_recv hK hP (ci := 2) (q0 := 17) rfl rfl, PRE_ok [3, 2] (by decide) hP (va_D_adr hD rfl) hA hS hK hN hZ⟩ rfl rfl hl.1 rfl (lv_room (Nat.le_of_ble_eq_true rfl)) dX4_voidsWithRow_99 ⟨Nat.le_of_ble_eq_true rfl, Nat.le_of_ble_eq_true rfl⟩) rfl 4 rfl (by decide) (by decide) (fun H locs hP hS => ?_)
      refine lv_iadd hx hb dX4_voidsWithRow_102 ?_
      refine lv_topi (fun x81 ex81 => ?_)
      replace hf := nm_i hf ex81
      refine lv_istore (lv' := [(4, .int x81), (0, .ref (g 0)), (5, .int v75)]) hx hb dX4_voidsWithRow_103 hl (by decide) rfl (fun ls hl => ?_)
      obtain ⟨x82, ex82⟩ : ∃ z : Int32, z = v75 + (1 : Int32) := ⟨_, rfl⟩
      replace hf := nm_i hf ex82
      refine lv_iinc (v := x82) (lv' := [(5, .int x82), (4, .int x81), (0, .ref (g 0))]) hx hb dX4_voidsWithRow_105 hl (k := 2) rfl (by rw [ex82]; rfl) (by decide) rfl (fun ls hl => ?_)
      refine lv_goto (tgt := 79) hx hb dX4_voidsWithRow_108 (by decide) ?_
      exact ih _ _ _ hf _ _ _ hP hS (lv_sub hl [2, 1, 0] rfl) kx
  refine hL79 fu _ _ _ hz77 _ _ _ hP hS (lv_sub hl [2, 1, 0] rfl) (fun H locs ls hP hS hl => ?_)
  refine lv_iload hx hb dX4_voidsWithRow_111 (lv_at hl 0 rfl) ?_
  obtain rfl := Option.some.inj hf
  subst hQ
  exact en_i hx hb hr hP hS hlocks dX4_voidsWithRow_113
theorem iw_X4_bestRow_X1 : ∀ w ∈ u_ws RX1 TX1 9, w ∈ wsX4_bestRow := by decide +kernel
theorem iw_X4_bestRow_X4 : ∀ w ∈ u_ws RX4 TX4 8, w ∈ wsX4_bestRow := by decide +kernel
def lb_X4_bestRow_65 (fu : Nat) (u_now : TS) (p0 : Int32) (p1 : Int32) (rec : Int32 → Int32 → Int32 → TS → TV → Option (Int32 × Int32 × TS × TV)) (v60 : Int32) (v61 : Int32) (v62 : Int32) (u63 : TS) (u64 : TV) : Option (Int32 × Int32 × TS × TV) :=
nm (S_sl u_now) fun (x67 : Int32) =>
nm (x67 - p0) fun (x68 : Int32) =>
if x68 < v62 then (
some (v60, v61, u63, u64)
)
else (
bd (f_X4_voidsWithRow fu u_now u63 u64 v62 p0 p1) fun (o70 : Int32 × TS × TV) =>
jn (fun (x72 : Int32) (x73 : Int32) =>
nm (v62 + (1 : Int32)) fun (x76 : Int32) =>
rec x72 x73 x76 o70.2.1 o70.2.2
) fun K104_75 =>
if v61 ≤ o70.1 then (
K104_75 v60 v61
)
else (
K104_75 v62 o70.1
)
)

def lf_X4_bestRow_65 (fu : Nat) (u_now : TS) (p0 : Int32) (p1 : Int32) : Nat → Int32 → Int32 → Int32 → TS → TV → Option (Int32 × Int32 × TS × TV) := lq_5 (lb_X4_bestRow_65 fu u_now p0 p1)
def f_X4_bestRow (fu : Nat) (u_now : TS) (u_trial : TS) (u_trialSurvey : TV) (p0 : Int32) (p1 : Int32) (p2 : Int32) : Option (Int32 × TS × TV) :=
nm (S_sl u_now) fun (x34 : Int32) =>
nm (if x34 < (20 : Int32) then x34 else (20 : Int32)) fun (x35 : Int32) =>
bd (f_X4_isWithin fu  p0 ((1 : Int32)) x35) fun (o36 : Bool) =>
if bI o36 = 0 then (
some ((-100001 : Int32), u_trial, u_trialSurvey)
)
else (
bd (f_X4_isLevel fu  p1) fun (o38 : Bool) =>
if bI o38 = 0 then (
some ((-100001 : Int32), u_trial, u_trialSurvey)
)
else (
bd (f_X4_isWithin fu  p2 ((0 : Int32)) ((1 : Int32))) fun (o40 : Bool) =>
if ¬ bI o40 = 0 then (
bd (f_X1_copyFrom fu u_trial u_now ) fun (o42 : TS) =>
bd (f_X4_voidsWithRow fu u_now o42 u_trialSurvey ((0 : Int32)) p0 p1) fun (o43 : Int32 × TS × TV) =>
bd (lf_X4_bestRow_65 fu u_now p0 p1 fu ((0 : Int32)) o43.1 ((1 : Int32)) o43.2.1 o43.2.2) fun (z66 : Int32 × Int32 × TS × TV) =>
if ¬ p2 = 0 then (
some (z66.2.1, z66.2.2.1, z66.2.2.2)
)
else (
some (z66.1, z66.2.2.1, z66.2.2.2)
)
)
else (
some ((-100001 : Int32), u_trial, u_trialSurvey)
)
)
)

abbrev rm_X4_bestRow : Room := { frames := 5, cells := 0, slots := 0, locals := 111 }
set_option maxHeartbeats 4000000 in
set_option maxRecDepth 100000 in
theorem c_X4_bestRow (l : Launch) (D : va_G) (cT : Nat → ClassId) (g : Nat → Nat) (fu : Nat) (u_now : TS) (u_trial : TS) (u_trialSurvey : TV) (p0 : Int32) (p1 : Int32) (p2 : Int32) (o : Int32 × TS × TV) (hf : f_X4_bestRow fu u_now u_trial u_trialSurvey p0 p1 p2 = some o) (sz : Nat) : Met l yX4_bestRow wsX4_bestRow rm_X4_bestRow (va_Pc [.ref (g 0), .int p0, .int p1, .int p2] (PRE D cT sz (List.flatten [wT g, wS cT g 1 u_now, wS cT g 13 u_trial, wV cT g 21 13 u_trialSurvey]))) (QI D o.1 (List.flatten [wT g, wS cT g 1 u_now, wS cT g 13 o.2.1, wV cT g 21 13 o.2.2]) (va_A (List.flatten [wT g, wS cT g 1 u_now, wS cT g 13 u_trial, wV cT g 21 13 u_trialSurvey]) sz)) 0 0 (va_A (List.flatten [wT g, wS cT g 1 u_now, wS cT g 13 u_trial, wV cT g 21 13 u_trialSurvey]) sz) := by
  refine Met.ofW (cc := cX4_bestRow) (maxL := 8) (ret := (some .int)) (by decide) rfl ?_
  intro p e s m args below meth c s₁ B0 hml hv
  obtain ⟨hav, hsz, hP, hK, hD, hN, hZ⟩ := hv
  have hx := B0.exec
  have hb := B0.bytes
  have hr := B0.returns
  have hts := atoms_spec (ws := wsX4_bestRow) B0.pre
  have hown : s.vm.findClass RX4 = some m.cls := findClass_of_methodNamed B0.named
  have hlocks := B0.notSynchronized
  subst hsz
  have hD := hD.self (sz := s.heap.size)
  have hA : ∀ q : Nat, s.heap.size ≤ q → va_A (List.flatten [wT g, wS cT g 1 u_now, wS cT g 13 u_trial, wV cT g 21 13 u_trialSurvey]) s.heap.size q := fun q h => Or.inr h
  generalize va_A (List.flatten [wT g, wS cT g 1 u_now, wS cT g 13 u_trial, wV cT g 21 13 u_trialSurvey]) s.heap.size = A at hD hZ hA ⊢
  have hS : va_S A s.heap s.heap [] := va_S.rf
  have hl := lv_entry ([.ref (g 0), .int p0, .int p1, .int p2]) (n := 8) (Nat.le_of_ble_eq_true rfl)
  rw [hav]
  rw [lg_entry_eq]
  generalize (lg_sl ([.ref (g 0), .int p0, .int p1, .int p2]) ++ List.replicate (8 - (lg_sl ([.ref (g 0), .int p0, .int p1, .int p2])).length) Slot.unset).toArray = ls at hl ⊢
  have hl : lv_has ls 8 [(0, .ref (g 0)), (1, .int p0), (2, .int p1), (3, .int p2)] := hl
  rw [← hav]
  generalize hQ : MQ below _ _ _ _ _ _ = Q
  show W p l e rm_X4_bestRow s m args below meth c s.heap [] 0 0 Q (F0 m 0 ls [])
  unfold f_X4_bestRow at hf
  refine lv_iload_n hx hb dX4_bestRow_0 rfl (lv_at hl 1 rfl) ?_
  refine lv_iconst (v := 1) hx hb dX4_bestRow_1 (by decide) ?_
  refine lv_bipush (v := 20) hx hb dX4_bestRow_2 (by decide) ?_
  refine lv_aload_n hx hb dX4_bestRow_4 rfl (lv_at hl 0 rfl) ?_
  refine va_get (ci := 4) (v := .ref (g 1)) (C := RX4) (T := TX4) (N := 8) hx hb hts iw_X4_bestRow_X4 hown hK hP 0 rfl rfl 0 (by decide) (hts (.fieldLink RX4 10 "BallastTrack" "now" "LBallastTrack$State;") (List.mem_of_getElem? (i := 1) rfl)) (fun _ h9 => h9) rfl dX4_bestRow_5 ?_
  refine va_get (ci := 1) (v := .int (S_sl u_now)) (C := RX1) (T := TX1) (N := 9) hx hb hts iw_X4_bestRow_X1 hown hK hP 1 rfl rfl 0 (by decide) (hts (.fieldLink RX4 58 "BallastTrack$State" "sleepers" "I") (List.mem_of_getElem? (i := 2) rfl)) (fun _ h9 => h9) rfl dX4_bestRow_8 ?_
  refine lv_topi (fun x34 ex34 => ?_)
  replace hf := nm_i hf ex34
  refine va_mmin hx hb (by rw [hml]; exact hl.1.symm) hown (hts (.methodLink RX4 191 Lib.Math.min.name) (List.mem_of_getElem? (i := 3) rfl)) (hts (.static Lib.Math.min.name) (List.mem_of_getElem? (i := 4) rfl)) (hts (.initialized "java/lang/Math") (List.mem_of_getElem? (i := 5) rfl)) (hts (.code Lib.Math.min.name Lib.Math.min.code 2 (some .int)) (List.mem_of_getElem? (i := 6) rfl)) (Nat.le_of_ble_eq_true rfl) (Nat.le_of_ble_eq_true rfl) (Nat.le_of_ble_eq_true rfl) (Nat.le_of_ble_eq_true rfl) dX4_bestRow_11 ?_
  refine lv_topi (fun x35 ex35 => ?_)
  replace hf := nm_i hf ex35
  obtain ⟨o36, ho36, hf⟩ := bd_i hf
  refine cl_i [] [0, 1, 2, 3] [wT g, wS cT g 1 u_now, wS cT g 13 u_trial, wV cT g 21 13 u_trialSurvey] hP (va_D_adr hD rfl) hA hS (va_runS (As := [.int p0, .int ((1 : Int32)), .int x35]) (rest := []) ⟨hx, hb, hml, hown, hts⟩ (c_X4_isWithin l D cT g  fu  p0 ((1 : Int32)) x35 o36 ho36 _) (va_cwS 3 hts gX4_bestRow_X4_isWithin rfl rfl rfl (by decide +kernel) ⟨Nat.le_of_ble_eq_true rfl, Nat.le_of_ble_eq_true rfl⟩) ⟨PRE_blind, PRE_ok [] (by decide) hP (va_D_adr hD rfl) hA hS hK hN hZ⟩ rfl rfl hl.1 rfl (lv_room (Nat.le_of_ble_eq_true rfl)) dX4_bestRow_14 ⟨Nat.le_of_ble_eq_true rfl, Nat.le_of_ble_eq_true rfl⟩) rfl 4 rfl (by decide) (by decide) (fun H locs hP hS => ?_)
  refine lv_if_eq (tgt := 36) hx hb dX4_bestRow_17 (by decide) (fun c37 => ?_) (fun c37 => ?_)
  · replace hf := it_t hf c37
    refine lv_ldc (v := -100001) hx hb hown (hts (.constant RX4 57 (-100001)) (List.mem_of_getElem? (i := 7) rfl)) dX4_bestRow_36 ?_
    obtain rfl := Option.some.inj hf
    subst hQ
    exact en_i hx hb hr hP hS hlocks dX4_bestRow_38
  · replace hf := it_f hf c37
    refine lv_iload_n hx hb dX4_bestRow_20 rfl (lv_at hl 2 rfl) ?_
    obtain ⟨o38, ho38, hf⟩ := bd_i hf
    refine cl_i [] [0, 1, 2, 3] [wT g, wS cT g 1 u_now, wS cT g 13 u_trial, wV cT g 21 13 u_trialSurvey] hP (va_D_adr hD rfl) hA hS (va_runS (As := [.int p1]) (rest := []) ⟨hx, hb, hml, hown, hts⟩ (c_X4_isLevel l D cT g  fu  p1 o38 ho38 _) (va_cwS 1 hts gX4_bestRow_X4_isLevel rfl rfl rfl (by decide +kernel) ⟨Nat.le_of_ble_eq_true rfl, Nat.le_of_ble_eq_true rfl⟩) ⟨PRE_blind, PRE_ok [] (by decide) hP (va_D_adr hD rfl) hA hS hK hN hZ⟩ rfl rfl hl.1 rfl (lv_room (Nat.le_of_ble_eq_true rfl)) dX4_bestRow_21 ⟨Nat.le_of_ble_eq_true rfl, Nat.le_of_ble_eq_true rfl⟩) rfl 4 rfl (by decide) (by decide) (fun H locs hP hS => ?_)
    refine lv_if_eq (tgt := 36) hx hb dX4_bestRow_24 (by decide) (fun c39 => ?_) (fun c39 => ?_)
    · replace hf := it_t hf c39
      refine lv_ldc (v := -100001) hx hb hown (hts (.constant RX4 57 (-100001)) (List.mem_of_getElem? (i := 7) rfl)) dX4_bestRow_36 ?_
      obtain rfl := Option.some.inj hf
      subst hQ
      exact en_i hx hb hr hP hS hlocks dX4_bestRow_38
    · replace hf := it_f hf c39
      refine lv_iload_n hx hb dX4_bestRow_27 rfl (lv_at hl 3 rfl) ?_
      refine lv_iconst (v := 0) hx hb dX4_bestRow_28 (by decide) ?_
      refine lv_iconst (v := 1) hx hb dX4_bestRow_29 (by decide) ?_
      obtain ⟨o40, ho40, hf⟩ := bd_i hf
      refine cl_i [] [0, 1, 2, 3] [wT g, wS cT g 1 u_now, wS cT g 13 u_trial, wV cT g 21 13 u_trialSurvey] hP (va_D_adr hD rfl) hA hS (va_runS (As := [.int p2, .int ((0 : Int32)), .int ((1 : Int32))]) (rest := []) ⟨hx, hb, hml, hown, hts⟩ (c_X4_isWithin l D cT g  fu  p2 ((0 : Int32)) ((1 : Int32)) o40 ho40 _) (va_cwS 3 hts gX4_bestRow_X4_isWithin rfl rfl rfl (by decide +kernel) ⟨Nat.le_of_ble_eq_true rfl, Nat.le_of_ble_eq_true rfl⟩) ⟨PRE_blind, PRE_ok [] (by decide) hP (va_D_adr hD rfl) hA hS hK hN hZ⟩ rfl rfl hl.1 rfl (lv_room (Nat.le_of_ble_eq_true rfl)) dX4_bestRow_30 ⟨Nat.le_of_ble_eq_true rfl, Nat.le_of_ble_eq_true rfl⟩) rfl 4 rfl (by decide) (by decide) (fun H locs hP hS => ?_)
      refine lv_if_ne (tgt := 39) hx hb dX4_bestRow_33 (by decide) (fun c41 => ?_) (fun c41 => ?_)
      · replace hf := it_t hf c41
        refine lv_aload_n hx hb dX4_bestRow_39 rfl (lv_at hl 0 rfl) ?_
        refine va_get (ci := 4) (v := .ref (g 13)) (C := RX4) (T := TX4) (N := 8) hx hb hts iw_X4_bestRow_X4 hown hK hP 0 rfl rfl 2 (by decide) (hts (.fieldLink RX4 25 "BallastTrack" "trial" "LBallastTrack$State;") (List.mem_of_getElem? (i := 8) rfl)) (fun _ h9 => h9) rfl dX4_bestRow_40 ?_
        refine lv_aload_n hx hb dX4_bestRow_43 rfl (lv_at hl 0 rfl) ?_
        refine va_get (ci := 4) (v := .ref (g 1)) (C := RX4) (T := TX4) (N := 8) hx hb hts iw_X4_bestRow_X4 hown hK hP 0 rfl rfl 0 (by decide) (hts (.fieldLink RX4 10 "BallastTrack" "now" "LBallastTrack$State;") (List.mem_of_getElem? (i := 1) rfl)) (fun _ h9 => h9) rfl dX4_bestRow_44 ?_
        obtain ⟨o42, ho42, hf⟩ := bd_i hf
        refine cl_v [2, 1] [0, 3] [wT g, wS cT g 1 u_now, wS cT g 13 o42, wV cT g 21 13 u_trialSurvey] hP (va_D_adr hD rfl) hA hS (va_runV (As := [.ref (g 1)]) (rest := []) ⟨hx, hb, hml, hown, hts⟩ (c_X1_copyFrom l D cT g 13 1 fu u_trial u_now  o42 ho42 _) (cwV 1 hts gX4_bestRow_X1_copyFrom rfl rfl rfl (by decide +kernel) ⟨Nat.le_of_ble_eq_true rfl, Nat.le_of_ble_eq_true rfl⟩) ⟨PRE_blind, va_recv hK hP (ci := 1) (q0 := 9) rfl rfl, PRE_ok [2, 1] (by decide) hP (va_D_adr hD rfl) hA hS hK hN hZ⟩ rfl rfl hl.1 rfl (lv_room (Nat.le_of_ble_eq_true rfl)) dX4_bestRow_47 ⟨Nat.le_of_ble_eq_true rfl, Nat.le_of_ble_eq_true rfl⟩) rfl 4 rfl (by decide) (by decide) (fun H locs hP hS => ?_)
        refine lv_iconst (v := 0) hx hb dX4_bestRow_50 (by decide) ?_
        refine lv_istore (lv' := [(4, .int ((0 : Int32))), (0, .ref (g 0)), (1, .int p0), (2, .int p1), (3, .int p2)]) hx hb dX4_bestRow_51 hl (by decide) rfl (fun ls hl => ?_)
        refine lv_aload_n hx hb dX4_bestRow_53 rfl (lv_at hl 1 rfl) ?_
        refine lv_iconst (v := 0) hx hb dX4_bestRow_54 (by decide) ?_
        refine lv_iload_n hx hb dX4_bestRow_55 rfl (lv_at hl 2 rfl) ?_
        refine lv_iload_n hx hb dX4_bestRow_56 rfl (lv_at hl 3 rfl) ?_
        obtain ⟨o43, ho43, hf⟩ := bd_i hf
        refine cl_i [0, 1, 2, 3] [] [wT g, wS cT g 1 u_now, wS cT g 13 o43.2.1, wV cT g 21 13 o43.2.2] hP (va_D_adr hD rfl) hA hS (va_runV (As := [.int ((0 : Int32)), .int p0, .int p1]) (rest := []) ⟨hx, hb, hml, hown, hts⟩ (c_X4_voidsWithRow l D cT g  fu u_now o42 u_trialSurvey ((0 : Int32)) p0 p1 o43 ho43 _) (cwV 3 hts gX4_bestRow_X4_voidsWithRow rfl rfl rfl (by decide +kernel) ⟨Nat.le_of_ble_eq_true rfl, Nat.le_of_ble_eq_true rfl⟩) ⟨PRE_blind, va_recv hK hP (ci := 4) (q0 := 0) rfl rfl, PRE_ok [0, 1, 2, 3] (by decide) hP (va_D_adr hD rfl) hA hS hK hN hZ⟩ rfl rfl hl.1 rfl (lv_room (Nat.le_of_ble_eq_true rfl)) dX4_bestRow_57 ⟨Nat.le_of_ble_eq_true rfl, Nat.le_of_ble_eq_true rfl⟩) rfl 4 rfl (by decide) (by decide) (fun H locs hP hS => ?_)
        refine lv_istore (lv' := [(5, .int o43.1), (4, .int ((0 : Int32))), (0, .ref (g 0)), (1, .int p0), (2, .int p1), (3, .int p2)]) hx hb dX4_bestRow_60 hl (by decide) rfl (fun ls hl => ?_)
        refine lv_iconst (v := 1) hx hb dX4_bestRow_62 (by decide) ?_
        refine lv_istore (lv' := [(6, .int ((1 : Int32))), (5, .int o43.1), (4, .int ((0 : Int32))), (0, .ref (g 0)), (1, .int p0), (2, .int p1), (3, .int p2)]) hx hb dX4_bestRow_63 hl (by decide) rfl (fun ls hl => ?_)
        obtain ⟨z66, hz66, hf⟩ := bd_i hf
        have hL65 : ∀ (n : Nat) (v60 : Int32) (v61 : Int32) (v62 : Int32) (u63 : TS) (u64 : TV) (z65 : Int32 × Int32 × TS × TV), lf_X4_bestRow_65 fu u_now p0 p1 n v60 v61 v62 u63 u64 = some z65 → ∀ (H : Heap) (locs : List Loc) (ls : Array Slot), va_P D vwCl (List.flatten [wT g, wS cT g 1 u_now, wS cT g 13 u63, wV cT g 21 13 u64]) H → va_S A s.heap H locs → lv_has ls 8 [(0, .ref (g 0)), (1, .int p0), (2, .int p1), (3, .int p2), (4, .int v60), (5, .int v61), (6, .int v62)] → (∀ (H : Heap) (locs : List Loc) (ls : Array Slot), va_P D vwCl (List.flatten [wT g, wS cT g 1 u_now, wS cT g 13 z65.2.2.1, wV cT g 21 13 z65.2.2.2]) H → va_S A s.heap H locs → lv_has ls 8 [(3, .int p2), (4, .int z65.1), (5, .int z65.2.1)] → W p l e rm_X4_bestRow s m args below meth c H locs 0 0 Q (F0 m 110 ls [])) → W p l e rm_X4_bestRow s m args below meth c H locs 0 0 Q (F0 m 65 ls []) := by
          refine lq_5_ind (F := lb_X4_bestRow_65 fu u_now p0 p1) (fun rec ih v60 v61 v62 u63 u64 z65 hf H locs ls hP hS hl kx => ?_)
          unfold lb_X4_bestRow_65 at hf
          refine lv_iload hx hb dX4_bestRow_65 (lv_at hl 6 rfl) ?_
          refine lv_aload_n hx hb dX4_bestRow_67 rfl (lv_at hl 0 rfl) ?_
          refine va_get (ci := 4) (v := .ref (g 1)) (C := RX4) (T := TX4) (N := 8) hx hb hts iw_X4_bestRow_X4 hown hK hP 0 rfl rfl 0 (by decide) (hts (.fieldLink RX4 10 "BallastTrack" "now" "LBallastTrack$State;") (List.mem_of_getElem? (i := 1) rfl)) (fun _ h9 => h9) rfl dX4_bestRow_68 ?_
          refine va_get (ci := 1) (v := .int (S_sl u_now)) (C := RX1) (T := TX1) (N := 9) hx hb hts iw_X4_bestRow_X1 hown hK hP 1 rfl rfl 0 (by decide) (hts (.fieldLink RX4 58 "BallastTrack$State" "sleepers" "I") (List.mem_of_getElem? (i := 2) rfl)) (fun _ h9 => h9) rfl dX4_bestRow_71 ?_
          refine lv_topi (fun x67 ex67 => ?_)
          replace hf := nm_i hf ex67
          refine lv_iload_n hx hb dX4_bestRow_74 rfl (lv_at hl 1 rfl) ?_
          refine lv_isub hx hb dX4_bestRow_75 ?_
          refine lv_topi (fun x68 ex68 => ?_)
          replace hf := nm_i hf ex68
          refine lv_icmp_gt (tgt := 110) hx hb dX4_bestRow_76 (by decide) (fun c69 => ?_) (fun c69 => ?_)
          · replace hf := it_t hf c69
            obtain rfl := Option.some.inj hf
            exact kx _ _ _ hP hS (lv_sub hl [3, 4, 5] rfl)
          · replace hf := it_f hf c69
            refine lv_aload_n hx hb dX4_bestRow_79 rfl (lv_at hl 0 rfl) ?_
            refine lv_iload hx hb dX4_bestRow_80 (lv_at hl 6 rfl) ?_
            refine lv_iload_n hx hb dX4_bestRow_82 rfl (lv_at hl 1 rfl) ?_
            refine lv_iload_n hx hb dX4_bestRow_83 rfl (lv_at hl 2 rfl) ?_
            obtain ⟨o70, ho70, hf⟩ := bd_i hf
            refine cl_i [0, 1, 2, 3] [] [wT g, wS cT g 1 u_now, wS cT g 13 o70.2.1, wV cT g 21 13 o70.2.2] hP (va_D_adr hD rfl) hA hS (va_runV (As := [.int v62, .int p0, .int p1]) (rest := []) ⟨hx, hb, hml, hown, hts⟩ (c_X4_voidsWithRow l D cT g  fu u_now u63 u64 v62 p0 p1 o70 ho70 _) (cwV 3 hts gX4_bestRow_X4_voidsWithRow rfl rfl rfl (by decide +kernel) ⟨Nat.le_of_ble_eq_true rfl, Nat.le_of_ble_eq_true rfl⟩) ⟨PRE_blind, va_recv hK hP (ci := 4) (q0 := 0) rfl rfl, PRE_ok [0, 1, 2, 3] (by decide) hP (va_D_adr hD rfl) hA hS hK hN hZ⟩ rfl rfl hl.1 rfl (lv_room (Nat.le_of_ble_eq_true rfl)) dX4_bestRow_84 ⟨Nat.le_of_ble_eq_true rfl, Nat.le_of_ble_eq_true rfl⟩) rfl 4 rfl (by decide) (by decide) (fun H locs hP hS => ?_)
            refine lv_istore (lv' := [(7, .int o70.1), (0, .ref (g 0)), (1, .int p0), (2, .int p1), (3, .int p2), (4, .int v60), (5, .int v61), (6, .int v62)]) hx hb dX4_bestRow_87 hl (by decide) rfl (fun ls hl => ?_)
            refine lv_iload hx hb dX4_bestRow_89 (lv_at hl 0 rfl) ?_
            refine lv_iload hx hb dX4_bestRow_91 (lv_at hl 6 rfl) ?_
            obtain ⟨K104_75, eK104_75, hf⟩ := jn_i hf
            have hK104_75 : ∀ (x72 : Int32) (x73 : Int32) (H : Heap) (locs : List Loc) (ls : Array Slot), K104_75 x72 x73 = some z65 → va_P D vwCl (List.flatten [wT g, wS cT g 1 u_now, wS cT g 13 o70.2.1, wV cT g 21 13 o70.2.2]) H → va_S A s.heap H locs → lv_has ls 8 [(0, .ref (g 0)), (1, .int p0), (2, .int p1), (3, .int p2), (4, .int x72), (5, .int x73), (6, .int v62)] → W p l e rm_X4_bestRow s m args below meth c H locs 0 0 Q (F0 m 104 ls []) := by
              intro x72 x73 H locs ls hf hP hS hl
              rw [eK104_75] at hf
              obtain ⟨x76, ex76⟩ : ∃ z : Int32, z = v62 + (1 : Int32) := ⟨_, rfl⟩
              replace hf := nm_i hf ex76
              refine lv_iinc (v := x76) (lv' := [(6, .int x76), (0, .ref (g 0)), (1, .int p0), (2, .int p1), (3, .int p2), (4, .int x72), (5, .int x73)]) hx hb dX4_bestRow_104 hl (k := 6) rfl (by rw [ex76]; rfl) (by decide) rfl (fun ls hl => ?_)
              refine lv_goto (tgt := 65) hx hb dX4_bestRow_107 (by decide) ?_
              exact ih _ _ _ _ _ _ hf _ _ _ hP hS (lv_sub hl [1, 2, 3, 4, 5, 6, 0] rfl) kx
            clear eK104_75
            refine lv_icmp_ge (tgt := 104) hx hb dX4_bestRow_93 (by decide) (fun c77 => ?_) (fun c77 => ?_)
            · replace hf := it_t hf c77
              exact hK104_75 _ _ _ _ _ hf hP hS (lv_sub hl [1, 2, 3, 4, 5, 6, 7] rfl)
            · replace hf := it_f hf c77
              refine lv_iload hx hb dX4_bestRow_96 (lv_at hl 7 rfl) ?_
              refine lv_istore (lv' := [(4, .int v62), (7, .int o70.1), (0, .ref (g 0)), (1, .int p0), (2, .int p1), (3, .int p2), (5, .int v61), (6, .int v62)]) hx hb dX4_bestRow_98 hl (by decide) rfl (fun ls hl => ?_)
              refine lv_iload hx hb dX4_bestRow_100 (lv_at hl 1 rfl) ?_
              refine lv_istore (lv' := [(5, .int o70.1), (4, .int v62), (7, .int o70.1), (0, .ref (g 0)), (1, .int p0), (2, .int p1), (3, .int p2), (6, .int v62)]) hx hb dX4_bestRow_102 hl (by decide) rfl (fun ls hl => ?_)
              exact hK104_75 _ _ _ _ _ hf hP hS (lv_sub hl [3, 4, 5, 6, 1, 0, 7] rfl)
        refine hL65 fu _ _ _ _ _ _ hz66 _ _ _ hP hS (lv_sub hl [3, 4, 5, 6, 2, 1, 0] rfl) (fun H locs ls hP hS hl => ?_)
        refine lv_iload_n hx hb dX4_bestRow_110 rfl (lv_at hl 0 rfl) ?_
        refine lv_if_ne (tgt := 119) hx hb dX4_bestRow_111 (by decide) (fun c78 => ?_) (fun c78 => ?_)
        · replace hf := it_t hf c78
          refine lv_iload hx hb dX4_bestRow_119 (lv_at hl 2 rfl) ?_
          obtain rfl := Option.some.inj hf
          subst hQ
          exact en_i hx hb hr hP hS hlocks dX4_bestRow_121
        · replace hf := it_f hf (not_not_intro c78)
          refine lv_iload hx hb dX4_bestRow_114 (lv_at hl 1 rfl) ?_
          refine lv_goto (tgt := 121) hx hb dX4_bestRow_116 (by decide) ?_
          obtain rfl := Option.some.inj hf
          subst hQ
          exact en_i hx hb hr hP hS hlocks dX4_bestRow_121
      · replace hf := it_f hf (not_not_intro c41)
        refine lv_ldc (v := -100001) hx hb hown (hts (.constant RX4 57 (-100001)) (List.mem_of_getElem? (i := 7) rfl)) dX4_bestRow_36 ?_
        obtain rfl := Option.some.inj hf
        subst hQ
        exact en_i hx hb hr hP hS hlocks dX4_bestRow_38
theorem iw_X4_minutesLeft_X1 : ∀ w ∈ u_ws RX1 TX1 9, w ∈ wsX4_minutesLeft := by decide +kernel
theorem iw_X4_minutesLeft_X4 : ∀ w ∈ u_ws RX4 TX4 8, w ∈ wsX4_minutesLeft := by decide +kernel
def f_X4_minutesLeft (fu : Nat) (u_now : TS) (u_trial : TS)  : Option (Int32 × TS) :=
bd (f_X1_copyFrom fu u_trial u_now ) fun (o6 : TS) =>
bd (f_X1_tamp fu o6 ((1000000 : Int32))) fun (o7 : Int32 × TS) =>
nm (S_ac o7.2 3) fun (x8 : Int32) =>
nm (S_ac u_now 3) fun (x9 : Int32) =>
nm (x8 - x9) fun (x10 : Int32) =>
some (x10, o7.2)

abbrev rm_X4_minutesLeft : Room := { frames := 4, cells := 0, slots := 0, locals := 128 }
set_option maxHeartbeats 4000000 in
set_option maxRecDepth 100000 in
theorem c_X4_minutesLeft (l : Launch) (D : va_G) (cT : Nat → ClassId) (g : Nat → Nat) (fu : Nat) (u_now : TS) (u_trial : TS)  (o : Int32 × TS) (hf : f_X4_minutesLeft fu u_now u_trial  = some o) (sz : Nat) : Met l yX4_minutesLeft wsX4_minutesLeft rm_X4_minutesLeft (va_Pc [.ref (g 0)] (PRE D cT sz (List.flatten [wT g, wS cT g 1 u_now, wS cT g 13 u_trial]))) (QI D o.1 (List.flatten [wT g, wS cT g 1 u_now, wS cT g 13 o.2]) (va_A (List.flatten [wT g, wS cT g 1 u_now, wS cT g 13 u_trial]) sz)) 0 0 (va_A (List.flatten [wT g, wS cT g 1 u_now, wS cT g 13 u_trial]) sz) := by
  refine Met.ofW (cc := cX4_minutesLeft) (maxL := 1) (ret := (some .int)) (by decide) rfl ?_
  intro p e s m args below meth c s₁ B0 hml hv
  obtain ⟨hav, hsz, hP, hK, hD, hN, hZ⟩ := hv
  have hx := B0.exec
  have hb := B0.bytes
  have hr := B0.returns
  have hts := atoms_spec (ws := wsX4_minutesLeft) B0.pre
  have hown : s.vm.findClass RX4 = some m.cls := findClass_of_methodNamed B0.named
  have hlocks := B0.notSynchronized
  subst hsz
  have hD := hD.self (sz := s.heap.size)
  have hA : ∀ q : Nat, s.heap.size ≤ q → va_A (List.flatten [wT g, wS cT g 1 u_now, wS cT g 13 u_trial]) s.heap.size q := fun q h => Or.inr h
  generalize va_A (List.flatten [wT g, wS cT g 1 u_now, wS cT g 13 u_trial]) s.heap.size = A at hD hZ hA ⊢
  have hS : va_S A s.heap s.heap [] := va_S.rf
  have hl := lv_entry ([.ref (g 0)]) (n := 1) (Nat.le_of_ble_eq_true rfl)
  rw [hav]
  rw [lg_entry_eq]
  generalize (lg_sl ([.ref (g 0)]) ++ List.replicate (1 - (lg_sl ([.ref (g 0)])).length) Slot.unset).toArray = ls at hl ⊢
  have hl : lv_has ls 1 [(0, .ref (g 0))] := hl
  rw [← hav]
  generalize hQ : MQ below _ _ _ _ _ _ = Q
  show W p l e rm_X4_minutesLeft s m args below meth c s.heap [] 0 0 Q (F0 m 0 ls [])
  unfold f_X4_minutesLeft at hf
  refine lv_aload_n hx hb dX4_minutesLeft_0 rfl (lv_at hl 0 rfl) ?_
  refine va_get (ci := 4) (v := .ref (g 13)) (C := RX4) (T := TX4) (N := 8) hx hb hts iw_X4_minutesLeft_X4 hown hK hP 0 rfl rfl 2 (by decide) (hts (.fieldLink RX4 25 "BallastTrack" "trial" "LBallastTrack$State;") (List.mem_of_getElem? (i := 1) rfl)) (fun _ h9 => h9) rfl dX4_minutesLeft_1 ?_
  refine lv_aload_n hx hb dX4_minutesLeft_4 rfl (lv_at hl 0 rfl) ?_
  refine va_get (ci := 4) (v := .ref (g 1)) (C := RX4) (T := TX4) (N := 8) hx hb hts iw_X4_minutesLeft_X4 hown hK hP 0 rfl rfl 0 (by decide) (hts (.fieldLink RX4 10 "BallastTrack" "now" "LBallastTrack$State;") (List.mem_of_getElem? (i := 2) rfl)) (fun _ h9 => h9) rfl dX4_minutesLeft_5 ?_
  obtain ⟨o6, ho6, hf⟩ := bd_i hf
  refine cl_v [2, 1] [0] [wT g, wS cT g 1 u_now, wS cT g 13 o6] hP (va_D_adr hD rfl) hA hS (va_runV (As := [.ref (g 1)]) (rest := []) ⟨hx, hb, hml, hown, hts⟩ (c_X1_copyFrom l D cT g 13 1 fu u_trial u_now  o6 ho6 _) (cwV 1 hts gX4_minutesLeft_X1_copyFrom rfl rfl rfl (by decide +kernel) ⟨Nat.le_of_ble_eq_true rfl, Nat.le_of_ble_eq_true rfl⟩) ⟨PRE_blind, va_recv hK hP (ci := 1) (q0 := 9) rfl rfl, PRE_ok [2, 1] (by decide) hP (va_D_adr hD rfl) hA hS hK hN hZ⟩ rfl rfl hl.1 rfl (lv_room (Nat.le_of_ble_eq_true rfl)) dX4_minutesLeft_8 ⟨Nat.le_of_ble_eq_true rfl, Nat.le_of_ble_eq_true rfl⟩) rfl 3 rfl (by decide) (by decide) (fun H locs hP hS => ?_)
  refine lv_aload_n hx hb dX4_minutesLeft_11 rfl (lv_at hl 0 rfl) ?_
  refine va_get (ci := 4) (v := .ref (g 13)) (C := RX4) (T := TX4) (N := 8) hx hb hts iw_X4_minutesLeft_X4 hown hK hP 0 rfl rfl 2 (by decide) (hts (.fieldLink RX4 25 "BallastTrack" "trial" "LBallastTrack$State;") (List.mem_of_getElem? (i := 1) rfl)) (fun _ h9 => h9) rfl dX4_minutesLeft_12 ?_
  refine lv_ldc (v := 1000000) hx hb hown (hts (.constant RX4 200 (1000000)) (List.mem_of_getElem? (i := 3) rfl)) dX4_minutesLeft_15 ?_
  obtain ⟨o7, ho7, hf⟩ := bd_i hf
  refine cl_i [2] [0, 1] [wT g, wS cT g 1 u_now, wS cT g 13 o7.2] hP (va_D_adr hD rfl) hA hS (va_runV (As := [.int ((1000000 : Int32))]) (rest := []) ⟨hx, hb, hml, hown, hts⟩ (c_X1_tamp l D cT g 13 fu o6 ((1000000 : Int32)) o7 ho7 _) (cwV 1 hts gX4_minutesLeft_X1_tamp rfl rfl rfl (by decide +kernel) ⟨Nat.le_of_ble_eq_true rfl, Nat.le_of_ble_eq_true rfl⟩) ⟨PRE_blind, va_recv hK hP (ci := 1) (q0 := 9) rfl rfl, PRE_ok [2] (by decide) hP (va_D_adr hD rfl) hA hS hK hN hZ⟩ rfl rfl hl.1 rfl (lv_room (Nat.le_of_ble_eq_true rfl)) dX4_minutesLeft_17 ⟨Nat.le_of_ble_eq_true rfl, Nat.le_of_ble_eq_true rfl⟩) rfl 3 rfl (by decide) (by decide) (fun H locs hP hS => ?_)
  refine lv_pop hx hb dX4_minutesLeft_20 rfl ?_
  refine lv_aload_n hx hb dX4_minutesLeft_21 rfl (lv_at hl 0 rfl) ?_
  refine va_get (ci := 4) (v := .ref (g 13)) (C := RX4) (T := TX4) (N := 8) hx hb hts iw_X4_minutesLeft_X4 hown hK hP 0 rfl rfl 2 (by decide) (hts (.fieldLink RX4 25 "BallastTrack" "trial" "LBallastTrack$State;") (List.mem_of_getElem? (i := 1) rfl)) (fun _ h9 => h9) rfl dX4_minutesLeft_22 ?_
  refine va_get (ci := 1) (v := .ref (g (13 + 7))) (C := RX1) (T := TX1) (N := 9) hx hb hts iw_X4_minutesLeft_X1 hown hK hP 9 rfl rfl 8 (by decide) (hts (.fieldLink RX4 150 "BallastTrack$State" "accounts" "[I") (List.mem_of_getElem? (i := 4) rfl)) (fun _ h9 => h9) rfl dX4_minutesLeft_25 ?_
  refine lv_iconst (v := 3) hx hb dX4_minutesLeft_28 (by decide) ?_
  refine va_iald hx hb hK hP 16 0 rfl rfl (by unfold vp_in; decide) dX4_minutesLeft_29 ?_
  refine lv_topi (fun x8 ex8 => ?_)
  replace hf := nm_i hf ex8
  refine lv_aload_n hx hb dX4_minutesLeft_30 rfl (lv_at hl 0 rfl) ?_
  refine va_get (ci := 4) (v := .ref (g 1)) (C := RX4) (T := TX4) (N := 8) hx hb hts iw_X4_minutesLeft_X4 hown hK hP 0 rfl rfl 0 (by decide) (hts (.fieldLink RX4 10 "BallastTrack" "now" "LBallastTrack$State;") (List.mem_of_getElem? (i := 2) rfl)) (fun _ h9 => h9) rfl dX4_minutesLeft_31 ?_
  refine va_get (ci := 1) (v := .ref (g (1 + 7))) (C := RX1) (T := TX1) (N := 9) hx hb hts iw_X4_minutesLeft_X1 hown hK hP 1 rfl rfl 8 (by decide) (hts (.fieldLink RX4 150 "BallastTrack$State" "accounts" "[I") (List.mem_of_getElem? (i := 4) rfl)) (fun _ h9 => h9) rfl dX4_minutesLeft_34 ?_
  refine lv_iconst (v := 3) hx hb dX4_minutesLeft_37 (by decide) ?_
  refine va_iald hx hb hK hP 8 0 rfl rfl (by unfold vp_in; decide) dX4_minutesLeft_38 ?_
  refine lv_topi (fun x9 ex9 => ?_)
  replace hf := nm_i hf ex9
  refine lv_isub hx hb dX4_minutesLeft_39 ?_
  refine lv_topi (fun x10 ex10 => ?_)
  replace hf := nm_i hf ex10
  obtain rfl := Option.some.inj hf
  subst hQ
  exact en_i hx hb hr hP hS hlocks dX4_minutesLeft_40
