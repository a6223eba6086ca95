theorem iw_X4_cancelJobs_X1 : ∀ w ∈ u_ws RX1 TX1 9, w ∈ wsX4_cancelJobs := by decide +kernel
theorem iw_X4_cancelJobs_X4 : ∀ w ∈ u_ws RX4 TX4 8, w ∈ wsX4_cancelJobs := by decide +kernel
def lb_X4_cancelJobs_37 (fu : Nat) (p0 : Int32) (rec : Int32 → Int32 → TS → Option (Int32 × TS)) (v63 : Int32) (v64 : Int32) (u65 : TS) : Option (Int32 × TS) :=
if v64 < 0 then (
some (v63, u65)
)
else (
bd (f_X1_jobValue fu u65 v64 ((3 : Int32))) fun (o69 : Int32) =>
bd (f_X1_jobValue fu u65 v64 ((1 : Int32))) fun (o70 : Int32) =>
bd (f_X4_isWithin fu  p0 o69 o70) fun (o71 : Bool) =>
jn (fun (x75 : Int32) (u76 : TS) =>
nm (v64 + (-1 : Int32)) fun (x79 : Int32) =>
rec x75 x79 u76
) fun K77_78 =>
if bI o71 = 0 then (
K77_78 v63 u65
)
else (
bd (f_X1_removeJob fu u65 v64) fun (o81 : TS) =>
nm (v63 + (1 : Int32)) fun (x82 : Int32) =>
K77_78 x82 o81
)
)

def lf_X4_cancelJobs_37 (fu : Nat) (p0 : Int32) : Nat → Int32 → Int32 → TS → Option (Int32 × TS) := lq_3 (lb_X4_cancelJobs_37 fu p0)
def f_X4_cancelJobs (fu : Nat) (u_now : TS) (u_history : TH) (u_history_r0 : TS) (u_history_r1 : TS) (u_history_r2 : TS) (u_history_r3 : TS) (u_history_r4 : TS) (u_history_r5 : TS) (p0 : Int32) : Option (Int32 × TS × TH × TS × TS × TS × TS × TS × TS) :=
bd (f_X1_has fu u_now p0) fun (o34 : Bool) =>
if ¬ bI o34 = 0 then (
bd (f_X0_save fu u_history u_history_r0 u_history_r1 u_history_r2 u_history_r3 u_history_r4 u_history_r5 u_now ) fun (o36 : TH × TS × TS × TS × TS × TS × TS) =>
nm (S_jb u_now) fun (x37 : Int32) =>
nm (x37 - (1 : Int32)) fun (x38 : Int32) =>
bd (lf_X4_cancelJobs_37 fu p0 fu ((0 : Int32)) x38 u_now) fun (z67 : Int32 × TS) =>
some (z67.1, z67.2, o36.1, o36.2.1, o36.2.2.1, o36.2.2.2.1, o36.2.2.2.2.1, o36.2.2.2.2.2.1, o36.2.2.2.2.2.2)
)
else (
some ((-100001 : Int32), u_now, u_history, u_history_r0, u_history_r1, u_history_r2, u_history_r3, u_history_r4, u_history_r5)
)

abbrev rm_X4_cancelJobs : Room := { frames := 3, cells := 0, slots := 0, locals := 102 }
set_option maxHeartbeats 4000000 in
set_option maxRecDepth 100000 in
theorem c_X4_cancelJobs (l : Launch) (D : va_G) (cT : Nat → ClassId) (g : Nat → Nat) (fu : Nat) (u_now : TS) (u_history : TH) (u_history_r0 : TS) (u_history_r1 : TS) (u_history_r2 : TS) (u_history_r3 : TS) (u_history_r4 : TS) (u_history_r5 : TS) (p0 : Int32) (o : Int32 × TS × TH × TS × TS × TS × TS × TS × TS) (hf : f_X4_cancelJobs fu u_now u_history u_history_r0 u_history_r1 u_history_r2 u_history_r3 u_history_r4 u_history_r5 p0 = some o) (sz : Nat) : Met l yX4_cancelJobs wsX4_cancelJobs rm_X4_cancelJobs (va_Pc [.ref (g 0), .int p0] (PRE D cT sz (List.flatten [wT g, wS cT g 1 u_now, wH cT g 25 u_history, wS cT g 27 u_history_r0, wS cT g 35 u_history_r1, wS cT g 43 u_history_r2, wS cT g 51 u_history_r3, wS cT g 59 u_history_r4, wS cT g 67 u_history_r5]))) (QI D o.1 (List.flatten [wT g, wS cT g 1 o.2.1, wH cT g 25 o.2.2.1, wS cT g 27 o.2.2.2.1, wS cT g 35 o.2.2.2.2.1, wS cT g 43 o.2.2.2.2.2.1, wS cT g 51 o.2.2.2.2.2.2.1, wS cT g 59 o.2.2.2.2.2.2.2.1, wS cT g 67 o.2.2.2.2.2.2.2.2]) (va_A (List.flatten [wT g, wS cT g 1 u_now, wH cT g 25 u_history, wS cT g 27 u_history_r0, wS cT g 35 u_history_r1, wS cT g 43 u_history_r2, wS cT g 51 u_history_r3, wS cT g 59 u_history_r4, wS cT g 67 u_history_r5]) sz)) 0 0 (va_A (List.flatten [wT g, wS cT g 1 u_now, wH cT g 25 u_history, wS cT g 27 u_history_r0, wS cT g 35 u_history_r1, wS cT g 43 u_history_r2, wS cT g 51 u_history_r3, wS cT g 59 u_history_r4, wS cT g 67 u_history_r5]) sz) := by
  refine Met.ofW (cc := cX4_cancelJobs) (maxL := 4) (ret := (some .int)) (by decide) rfl ?_
  intro p e s m args below meth c s₁ B0 hml hv
  obtain ⟨hav, hsz, hP, hK, hD, hN, hZ⟩ := hv
  have hx := B0.exec
  have hb := B0.bytes
  have hr := B0.returns
  have hts := atoms_spec (ws := wsX4_cancelJobs) B0.pre
  have hown : s.vm.findClass RX4 = some m.cls := findClass_of_methodNamed B0.named
  have hlocks := B0.notSynchronized
  subst hsz
  have hD := hD.self (sz := s.heap.size)
  have hA : ∀ q : Nat, s.heap.size ≤ q → va_A (List.flatten [wT g, wS cT g 1 u_now, wH cT g 25 u_history, wS cT g 27 u_history_r0, wS cT g 35 u_history_r1, wS cT g 43 u_history_r2, wS cT g 51 u_history_r3, wS cT g 59 u_history_r4, wS cT g 67 u_history_r5]) s.heap.size q := fun q h => Or.inr h
  generalize va_A (List.flatten [wT g, wS cT g 1 u_now, wH cT g 25 u_history, wS cT g 27 u_history_r0, wS cT g 35 u_history_r1, wS cT g 43 u_history_r2, wS cT g 51 u_history_r3, wS cT g 59 u_history_r4, wS cT g 67 u_history_r5]) s.heap.size = A at hD hZ hA ⊢
  have hS : va_S A s.heap s.heap [] := va_S.rf
  have hl := lv_entry ([.ref (g 0), .int p0]) (n := 4) (Nat.le_of_ble_eq_true rfl)
  rw [hav]
  rw [lg_entry_eq]
  generalize (lg_sl ([.ref (g 0), .int p0]) ++ List.replicate (4 - (lg_sl ([.ref (g 0), .int p0])).length) Slot.unset).toArray = ls at hl ⊢
  have hl : lv_has ls 4 [(0, .ref (g 0)), (1, .int p0)] := hl
  rw [← hav]
  generalize hQ : MQ below _ _ _ _ _ _ = Q
  show W p l e rm_X4_cancelJobs s m args below meth c s.heap [] 0 0 Q (F0 m 0 ls [])
  unfold f_X4_cancelJobs at hf
  refine lv_aload_n hx hb dX4_cancelJobs_0 rfl (lv_at hl 0 rfl) ?_
  refine va_get (ci := 4) (v := .ref (g 1)) (C := RX4) (T := TX4) (N := 8) hx hb hts iw_X4_cancelJobs_X4 hown hK hP 0 rfl rfl 0 (by decide) (hts (.fieldLink RX4 10 "BallastTrack" "now" "LBallastTrack$State;") (List.mem_of_getElem? (i := 1) rfl)) (fun _ h9 => h9) rfl dX4_cancelJobs_1 ?_
  refine lv_iload_n hx hb dX4_cancelJobs_4 rfl (lv_at hl 1 rfl) ?_
  obtain ⟨o34, ho34, hf⟩ := bd_i hf
  refine cl_i [1] [0, 2, 3, 4, 5, 6, 7, 8] [wT g, wS cT g 1 u_now, wH cT g 25 u_history, wS cT g 27 u_history_r0, wS cT g 35 u_history_r1, wS cT g 43 u_history_r2, wS cT g 51 u_history_r3, wS cT g 59 u_history_r4, wS cT g 67 u_history_r5] hP (va_D_adr hD rfl) hA hS (va_runV (As := [.int p0]) (rest := []) ⟨hx, hb, hml, hown, hts⟩ (c_X1_has l D cT g 1 fu u_now p0 o34 ho34 _) (cwV 1 hts gX4_cancelJobs_X1_has rfl rfl rfl (by decide +kernel) ⟨Nat.le_of_ble_eq_true rfl, Nat.le_of_ble_eq_true rfl⟩) ⟨PRE_blind, va_recv hK hP (ci := 1) (q0 := 1) rfl rfl, PRE_ok [1] (by decide) hP (va_D_adr hD rfl) hA hS hK hN hZ⟩ rfl rfl hl.1 rfl (lv_room (Nat.le_of_ble_eq_true rfl)) dX4_cancelJobs_5 ⟨Nat.le_of_ble_eq_true rfl, Nat.le_of_ble_eq_true rfl⟩) rfl 9 rfl (by decide) (by decide) (fun H locs hP hS => ?_)
  refine lv_if_ne (tgt := 14) hx hb dX4_cancelJobs_8 (by decide) (fun c35 => ?_) (fun c35 => ?_)
  · replace hf := it_t hf c35
    refine lv_aload_n hx hb dX4_cancelJobs_14 rfl (lv_at hl 0 rfl) ?_
    refine va_get (ci := 4) (v := .ref (g 25)) (C := RX4) (T := TX4) (N := 8) hx hb hts iw_X4_cancelJobs_X4 hown hK hP 0 rfl rfl 4 (by decide) (hts (.fieldLink RX4 34 "BallastTrack" "history" "LBallastTrack$History;") (List.mem_of_getElem? (i := 3) rfl)) (fun _ h9 => h9) rfl dX4_cancelJobs_15 ?_
    refine lv_aload_n hx hb dX4_cancelJobs_18 rfl (lv_at hl 0 rfl) ?_
    refine va_get (ci := 4) (v := .ref (g 1)) (C := RX4) (T := TX4) (N := 8) hx hb hts iw_X4_cancelJobs_X4 hown hK hP 0 rfl rfl 0 (by decide) (hts (.fieldLink RX4 10 "BallastTrack" "now" "LBallastTrack$State;") (List.mem_of_getElem? (i := 1) rfl)) (fun _ h9 => h9) rfl dX4_cancelJobs_19 ?_
    obtain ⟨o36, ho36, hf⟩ := bd_i hf
    refine cl_v [2, 3, 4, 5, 6, 7, 8, 1] [0] [wT g, wS cT g 1 u_now, wH cT g 25 o36.1, wS cT g 27 o36.2.1, wS cT g 35 o36.2.2.1, wS cT g 43 o36.2.2.2.1, wS cT g 51 o36.2.2.2.2.1, wS cT g 59 o36.2.2.2.2.2.1, wS cT g 67 o36.2.2.2.2.2.2] hP (va_D_adr hD rfl) hA hS (va_runV (As := [.ref (g 1)]) (rest := []) ⟨hx, hb, hml, hown, hts⟩ (c_X0_save l D cT g 25 1 fu u_history u_history_r0 u_history_r1 u_history_r2 u_history_r3 u_history_r4 u_history_r5 u_now  o36 ho36 _) (cwV 1 hts gX4_cancelJobs_X0_save rfl rfl rfl (by decide +kernel) ⟨Nat.le_of_ble_eq_true rfl, Nat.le_of_ble_eq_true rfl⟩) ⟨PRE_blind, va_recv hK hP (ci := 0) (q0 := 9) rfl rfl, PRE_ok [2, 3, 4, 5, 6, 7, 8, 1] (by decide) hP (va_D_adr hD rfl) hA hS hK hN hZ⟩ rfl rfl hl.1 rfl (lv_room (Nat.le_of_ble_eq_true rfl)) dX4_cancelJobs_22 ⟨Nat.le_of_ble_eq_true rfl, Nat.le_of_ble_eq_true rfl⟩) rfl 9 rfl (by decide) (by decide) (fun H locs hP hS => ?_)
    refine lv_iconst (v := 0) hx hb dX4_cancelJobs_25 (by decide) ?_
    refine lv_istore_n (lv' := [(2, .int ((0 : Int32))), (0, .ref (g 0)), (1, .int p0)]) hx hb dX4_cancelJobs_26 rfl hl (by decide) rfl (fun ls hl => ?_)
    refine lv_aload_n hx hb dX4_cancelJobs_27 rfl (lv_at hl 1 rfl) ?_
    refine va_get (ci := 4) (v := .ref (g 1)) (C := RX4) (T := TX4) (N := 8) hx hb hts iw_X4_cancelJobs_X4 hown hK hP 0 rfl rfl 0 (by decide) (hts (.fieldLink RX4 10 "BallastTrack" "now" "LBallastTrack$State;") (List.mem_of_getElem? (i := 1) rfl)) (fun _ h9 => h9) rfl dX4_cancelJobs_28 ?_
    refine va_get (ci := 1) (v := .int (S_jb u_now)) (C := RX1) (T := TX1) (N := 9) hx hb hts iw_X4_cancelJobs_X1 hown hK hP 1 rfl rfl 1 (by decide) (hts (.fieldLink RX4 119 "BallastTrack$State" "jobs" "I") (List.mem_of_getElem? (i := 4) rfl)) (fun _ h9 => h9) rfl dX4_cancelJobs_31 ?_
    refine lv_topi (fun x37 ex37 => ?_)
    replace hf := nm_i hf ex37
    refine lv_iconst (v := 1) hx hb dX4_cancelJobs_34 (by decide) ?_
    refine lv_isub hx hb dX4_cancelJobs_35 ?_
    refine lv_topi (fun x38 ex38 => ?_)
    replace hf := nm_i hf ex38
    refine lv_istore_n (lv' := [(3, .int x38), (2, .int ((0 : Int32))), (0, .ref (g 0)), (1, .int p0)]) hx hb dX4_cancelJobs_36 rfl hl (by decide) rfl (fun ls hl => ?_)
    obtain ⟨z67, hz67, hf⟩ := bd_i hf
    have hL37 : ∀ (n : Nat) (v63 : Int32) (v64 : Int32) (u65 : TS) (z66 : Int32 × TS), lf_X4_cancelJobs_37 fu p0 n v63 v64 u65 = some z66 → ∀ (H : Heap) (locs : List Loc) (ls : Array Slot), va_P D vwCl (List.flatten [wT g, wS cT g 1 u65, wH cT g 25 o36.1, wS cT g 27 o36.2.1, wS cT g 35 o36.2.2.1, wS cT g 43 o36.2.2.2.1, wS cT g 51 o36.2.2.2.2.1, wS cT g 59 o36.2.2.2.2.2.1, wS cT g 67 o36.2.2.2.2.2.2]) H → va_S A s.heap H locs → lv_has ls 4 [(0, .ref (g 0)), (1, .int p0), (2, .int v63), (3, .int v64)] → (∀ (H : Heap) (locs : List Loc) (ls : Array Slot), va_P D vwCl (List.flatten [wT g, wS cT g 1 z66.2, wH cT g 25 o36.1, wS cT g 27 o36.2.1, wS cT g 35 o36.2.2.1, wS cT g 43 o36.2.2.2.1, wS cT g 51 o36.2.2.2.2.1, wS cT g 59 o36.2.2.2.2.2.1, wS cT g 67 o36.2.2.2.2.2.2]) H → va_S A s.heap H locs → lv_has ls 4 [(2, .int z66.1)] → W p l e rm_X4_cancelJobs s m args below meth c H locs 0 0 Q (F0 m 83 ls [])) → W p l e rm_X4_cancelJobs s m args below meth c H locs 0 0 Q (F0 m 37 ls []) := by
      refine lq_3_ind (F := lb_X4_cancelJobs_37 fu p0) (fun rec ih v63 v64 u65 z66 hf H locs ls hP hS hl kx => ?_)
      unfold lb_X4_cancelJobs_37 at hf
      refine lv_iload_n hx hb dX4_cancelJobs_37 rfl (lv_at hl 3 rfl) ?_
      refine lv_if_lt (tgt := 83) hx hb dX4_cancelJobs_38 (by decide) (fun c68 => ?_) (fun c68 => ?_)
      · replace hf := it_t hf c68
        obtain rfl := Option.some.inj hf
        exact kx _ _ _ hP hS (lv_sub hl [2] rfl)
      · replace hf := it_f hf c68
        refine lv_iload_n hx hb dX4_cancelJobs_41 rfl (lv_at hl 1 rfl) ?_
        refine lv_aload_n hx hb dX4_cancelJobs_42 rfl (lv_at hl 0 rfl) ?_
        refine va_get (ci := 4) (v := .ref (g 1)) (C := RX4) (T := TX4) (N := 8) hx hb hts iw_X4_cancelJobs_X4 hown hK hP 0 rfl rfl 0 (by decide) (hts (.fieldLink RX4 10 "BallastTrack" "now" "LBallastTrack$State;") (List.mem_of_getElem? (i := 1) rfl)) (fun _ h9 => h9) rfl dX4_cancelJobs_43 ?_
        refine lv_iload_n hx hb dX4_cancelJobs_46 rfl (lv_at hl 3 rfl) ?_
        refine lv_iconst (v := 3) hx hb dX4_cancelJobs_47 (by decide) ?_
        obtain ⟨o69, ho69, hf⟩ := bd_i hf
        refine cl_i [1] [0, 2, 3, 4, 5, 6, 7, 8] [wT g, wS cT g 1 u65, wH cT g 25 o36.1, wS cT g 27 o36.2.1, wS cT g 35 o36.2.2.1, wS cT g 43 o36.2.2.2.1, wS cT g 51 o36.2.2.2.2.1, wS cT g 59 o36.2.2.2.2.2.1, wS cT g 67 o36.2.2.2.2.2.2] hP (va_D_adr hD rfl) hA hS (va_runV (As := [.int v64, .int ((3 : Int32))]) (rest := [.int p0]) ⟨hx, hb, hml, hown, hts⟩ (c_X1_jobValue l D cT g 1 fu u65 v64 ((3 : Int32)) o69 ho69 _) (cwV 2 hts gX4_cancelJobs_X1_jobValue rfl rfl rfl (by decide +kernel) ⟨Nat.le_of_ble_eq_true rfl, Nat.le_of_ble_eq_true rfl⟩) ⟨PRE_blind, va_recv hK hP (ci := 1) (q0 := 1) rfl rfl, PRE_ok [1] (by decide) hP (va_D_adr hD rfl) hA hS hK hN hZ⟩ rfl rfl hl.1 rfl (lv_room (Nat.le_of_ble_eq_true rfl)) dX4_cancelJobs_48 ⟨Nat.le_of_ble_eq_true rfl, Nat.le_of_ble_eq_true rfl⟩) rfl 9 rfl (by decide) (by decide) (fun H locs hP hS => ?_)
        refine lv_aload_n hx hb dX4_cancelJobs_51 rfl (lv_at hl 0 rfl) ?_
        refine va_get (ci := 4) (v := .ref (g 1)) (C := RX4) (T := TX4) (N := 8) hx hb hts iw_X4_cancelJobs_X4 hown hK hP 0 rfl rfl 0 (by decide) (hts (.fieldLink RX4 10 "BallastTrack" "now" "LBallastTrack$State;") (List.mem_of_getElem? (i := 1) rfl)) (fun _ h9 => h9) rfl dX4_cancelJobs_52 ?_
        refine lv_iload_n hx hb dX4_cancelJobs_55 rfl (lv_at hl 3 rfl) ?_
        refine lv_iconst (v := 1) hx hb dX4_cancelJobs_56 (by decide) ?_
        obtain ⟨o70, ho70, hf⟩ := bd_i hf
        refine cl_i [1] [0, 2, 3, 4, 5, 6, 7, 8] [wT g, wS cT g 1 u65, wH cT g 25 o36.1, wS cT g 27 o36.2.1, wS cT g 35 o36.2.2.1, wS cT g 43 o36.2.2.2.1, wS cT g 51 o36.2.2.2.2.1, wS cT g 59 o36.2.2.2.2.2.1, wS cT g 67 o36.2.2.2.2.2.2] hP (va_D_adr hD rfl) hA hS (va_runV (As := [.int v64, .int ((1 : Int32))]) (rest := [.int o69, .int p0]) ⟨hx, hb, hml, hown, hts⟩ (c_X1_jobValue l D cT g 1 fu u65 v64 ((1 : Int32)) o70 ho70 _) (cwV 2 hts gX4_cancelJobs_X1_jobValue rfl rfl rfl (by decide +kernel) ⟨Nat.le_of_ble_eq_true rfl, Nat.le_of_ble_eq_true rfl⟩) ⟨PRE_blind, va_recv hK hP (ci := 1) (q0 := 1) rfl rfl, PRE_ok [1] (by decide) hP (va_D_adr hD rfl) hA hS hK hN hZ⟩ rfl rfl hl.1 rfl (lv_room (Nat.le_of_ble_eq_true rfl)) dX4_cancelJobs_57 ⟨Nat.le_of_ble_eq_true rfl, Nat.le_of_ble_eq_true rfl⟩) rfl 9 rfl (by decide) (by decide) (fun H locs hP hS => ?_)
        obtain ⟨o71, ho71, hf⟩ := bd_i hf
        refine cl_i [] [0, 1, 2, 3, 4, 5, 6, 7, 8] [wT g, wS cT g 1 u65, wH cT g 25 o36.1, wS cT g 27 o36.2.1, wS cT g 35 o36.2.2.1, wS cT g 43 o36.2.2.2.1, wS cT g 51 o36.2.2.2.2.1, wS cT g 59 o36.2.2.2.2.2.1, wS cT g 67 o36.2.2.2.2.2.2] hP (va_D_adr hD rfl) hA hS (va_runS (As := [.int p0, .int o69, .int o70]) (rest := []) ⟨hx, hb, hml, hown, hts⟩ (c_X4_isWithin l D cT g  fu  p0 o69 o70 o71 ho71 _) (va_cwS 3 hts gX4_cancelJobs_X4_isWithin rfl rfl rfl (by decide +kernel) ⟨Nat.le_of_ble_eq_true rfl, Nat.le_of_ble_eq_true rfl⟩) ⟨PRE_blind, PRE_ok [] (by decide) hP (va_D_adr hD rfl) hA hS hK hN hZ⟩ rfl rfl hl.1 rfl (lv_room (Nat.le_of_ble_eq_true rfl)) dX4_cancelJobs_60 ⟨Nat.le_of_ble_eq_true rfl, Nat.le_of_ble_eq_true rfl⟩) rfl 9 rfl (by decide) (by decide) (fun H locs hP hS => ?_)
        obtain ⟨K77_78, eK77_78, hf⟩ := jn_i hf
        have hK77_78 : ∀ (x75 : Int32) (u76 : TS) (H : Heap) (locs : List Loc) (ls : Array Slot), K77_78 x75 u76 = some z66 → va_P D vwCl (List.flatten [wT g, wS cT g 1 u76, wH cT g 25 o36.1, wS cT g 27 o36.2.1, wS cT g 35 o36.2.2.1, wS cT g 43 o36.2.2.2.1, wS cT g 51 o36.2.2.2.2.1, wS cT g 59 o36.2.2.2.2.2.1, wS cT g 67 o36.2.2.2.2.2.2]) H → va_S A s.heap H locs → lv_has ls 4 [(0, .ref (g 0)), (1, .int p0), (2, .int x75), (3, .int v64)] → W p l e rm_X4_cancelJobs s m args below meth c H locs 0 0 Q (F0 m 77 ls []) := by
          intro x75 u76 H locs ls hf hP hS hl
          rw [eK77_78] at hf
          obtain ⟨x79, ex79⟩ : ∃ z : Int32, z = v64 + (-1 : Int32) := ⟨_, rfl⟩
          replace hf := nm_i hf ex79
          refine lv_iinc (v := x79) (lv' := [(3, .int x79), (0, .ref (g 0)), (1, .int p0), (2, .int x75)]) hx hb dX4_cancelJobs_77 hl (k := 3) rfl (by rw [ex79]; rfl) (by decide) rfl (fun ls hl => ?_)
          refine lv_goto (tgt := 37) hx hb dX4_cancelJobs_80 (by decide) ?_
          exact ih _ _ _ _ hf _ _ _ hP hS (lv_sub hl [1, 2, 3, 0] rfl) kx
        clear eK77_78
        refine lv_if_eq (tgt := 77) hx hb dX4_cancelJobs_63 (by decide) (fun c80 => ?_) (fun c80 => ?_)
        · replace hf := it_t hf c80
          exact hK77_78 _ _ _ _ _ hf hP hS (lv_sub hl [0, 1, 2, 3] rfl)
        · replace hf := it_f hf c80
          refine lv_aload_n hx hb dX4_cancelJobs_66 rfl (lv_at hl 0 rfl) ?_
          refine va_get (ci := 4) (v := .ref (g 1)) (C := RX4) (T := TX4) (N := 8) hx hb hts iw_X4_cancelJobs_X4 hown hK hP 0 rfl rfl 0 (by decide) (hts (.fieldLink RX4 10 "BallastTrack" "now" "LBallastTrack$State;") (List.mem_of_getElem? (i := 1) rfl)) (fun _ h9 => h9) rfl dX4_cancelJobs_67 ?_
          refine lv_iload_n hx hb dX4_cancelJobs_70 rfl (lv_at hl 3 rfl) ?_
          obtain ⟨o81, ho81, hf⟩ := bd_i hf
          refine cl_v [1] [0, 2, 3, 4, 5, 6, 7, 8] [wT g, wS cT g 1 o81, wH cT g 25 o36.1, wS cT g 27 o36.2.1, wS cT g 35 o36.2.2.1, wS cT g 43 o36.2.2.2.1, wS cT g 51 o36.2.2.2.2.1, wS cT g 59 o36.2.2.2.2.2.1, wS cT g 67 o36.2.2.2.2.2.2] hP (va_D_adr hD rfl) hA hS (va_runV (As := [.int v64]) (rest := []) ⟨hx, hb, hml, hown, hts⟩ (c_X1_removeJob l D cT g 1 fu u65 v64 o81 ho81 _) (cwV 1 hts gX4_cancelJobs_X1_removeJob rfl rfl rfl (by decide +kernel) ⟨Nat.le_of_ble_eq_true rfl, Nat.le_of_ble_eq_true rfl⟩) ⟨PRE_blind, va_recv hK hP (ci := 1) (q0 := 1) rfl rfl, PRE_ok [1] (by decide) hP (va_D_adr hD rfl) hA hS hK hN hZ⟩ rfl rfl hl.1 rfl (lv_room (Nat.le_of_ble_eq_true rfl)) dX4_cancelJobs_71 ⟨Nat.le_of_ble_eq_true rfl, Nat.le_of_ble_eq_true rfl⟩) rfl 9 rfl (by decide) (by decide) (fun H locs hP hS => ?_)
          obtain ⟨x82, ex82⟩ : ∃ z : Int32, z = v63 + (1 : Int32) := ⟨_, rfl⟩
          replace hf := nm_i hf ex82
          refine lv_iinc (v := x82) (lv' := [(2, .int x82), (0, .ref (g 0)), (1, .int p0), (3, .int v64)]) hx hb dX4_cancelJobs_74 hl (k := 2) rfl (by rw [ex82]; rfl) (by decide) rfl (fun ls hl => ?_)
          exact hK77_78 _ _ _ _ _ hf hP hS (lv_sub hl [1, 2, 0, 3] rfl)
    refine hL37 fu _ _ _ _ hz67 _ _ _ hP hS (lv_sub hl [2, 3, 1, 0] rfl) (fun H locs ls hP hS hl => ?_)
    refine lv_iload_n hx hb dX4_cancelJobs_83 rfl (lv_at hl 0 rfl) ?_
    obtain rfl := Option.some.inj hf
    subst hQ
    exact en_i hx hb hr hP hS hlocks dX4_cancelJobs_84
  · replace hf := it_f hf (not_not_intro c35)
    refine lv_ldc (v := -100001) hx hb hown (hts (.constant RX4 57 (-100001)) (List.mem_of_getElem? (i := 2) rfl)) dX4_cancelJobs_11 ?_
    obtain rfl := Option.some.inj hf
    subst hQ
    exact en_i hx hb hr hP hS hlocks dX4_cancelJobs_13
theorem iw_X4_work_X1 : ∀ w ∈ u_ws RX1 TX1 9, w ∈ wsX4_work := by decide +kernel
theorem iw_X4_work_X4 : ∀ w ∈ u_ws RX4 TX4 8, w ∈ wsX4_work := by decide +kernel
def f_X4_work (fu : Nat) (u_now : TS) (u_history : TH) (u_history_r0 : TS) (u_history_r1 : TS) (u_history_r2 : TS) (u_history_r3 : TS) (u_history_r4 : TS) (u_history_r5 : TS) (p0 : Int32) : Option (Int32 × TS × TH × TS × TS × TS × TS × TS × TS) :=
bd (f_X4_isWithin fu  p0 ((1 : Int32)) ((600 : Int32))) fun (o7 : Bool) =>
if ¬ bI o7 = 0 then (
nm (S_jb u_now) fun (x9 : Int32) =>
if ¬ x9 = 0 then (
bd (f_X0_save fu u_history u_history_r0 u_history_r1 u_history_r2 u_history_r3 u_history_r4 u_history_r5 u_now ) fun (o11 : TH × TS × TS × TS × TS × TS × TS) =>
bd (f_X1_tamp fu u_now p0) fun (o12 : Int32 × TS) =>
some (o12.1, o12.2, o11.1, o11.2.1, o11.2.2.1, o11.2.2.2.1, o11.2.2.2.2.1, o11.2.2.2.2.2.1, o11.2.2.2.2.2.2)
)
else (
some ((-100002 : Int32), u_now, u_history, u_history_r0, u_history_r1, u_history_r2, u_history_r3, u_history_r4, u_history_r5)
)
)
else (
some ((-100001 : Int32), u_now, u_history, u_history_r0, u_history_r1, u_history_r2, u_history_r3, u_history_r4, u_history_r5)
)

abbrev rm_X4_work : Room := { frames := 4, cells := 0, slots := 0, locals := 128 }
set_option maxHeartbeats 4000000 in
set_option maxRecDepth 100000 in
theorem c_X4_work (l : Launch) (D : va_G) (cT : Nat → ClassId) (g : Nat → Nat) (fu : Nat) (u_now : TS) (u_history : TH) (u_history_r0 : TS) (u_history_r1 : TS) (u_history_r2 : TS) (u_history_r3 : TS) (u_history_r4 : TS) (u_history_r5 : TS) (p0 : Int32) (o : Int32 × TS × TH × TS × TS × TS × TS × TS × TS) (hf : f_X4_work fu u_now u_history u_history_r0 u_history_r1 u_history_r2 u_history_r3 u_history_r4 u_history_r5 p0 = some o) (sz : Nat) : Met l yX4_work wsX4_work rm_X4_work (va_Pc [.ref (g 0), .int p0] (PRE D cT sz (List.flatten [wT g, wS cT g 1 u_now, wH cT g 25 u_history, wS cT g 27 u_history_r0, wS cT g 35 u_history_r1, wS cT g 43 u_history_r2, wS cT g 51 u_history_r3, wS cT g 59 u_history_r4, wS cT g 67 u_history_r5]))) (QI D o.1 (List.flatten [wT g, wS cT g 1 o.2.1, wH cT g 25 o.2.2.1, wS cT g 27 o.2.2.2.1, wS cT g 35 o.2.2.2.2.1, wS cT g 43 o.2.2.2.2.2.1, wS cT g 51 o.2.2.2.2.2.2.1, wS cT g 59 o.2.2.2.2.2.2.2.1, wS cT g 67 o.2.2.2.2.2.2.2.2]) (va_A (List.flatten [wT g, wS cT g 1 u_now, wH cT g 25 u_history, wS cT g 27 u_history_r0, wS cT g 35 u_history_r1, wS cT g 43 u_history_r2, wS cT g 51 u_history_r3, wS cT g 59 u_history_r4, wS cT g 67 u_history_r5]) sz)) 0 0 (va_A (List.flatten [wT g, wS cT g 1 u_now, wH cT g 25 u_history, wS cT g 27 u_history_r0, wS cT g 35 u_history_r1, wS cT g 43 u_history_r2, wS cT g 51 u_history_r3, wS cT g 59 u_history_r4, wS cT g 67 u_history_r5]) sz) := by
  refine Met.ofW (cc := cX4_work) (maxL := 2) (ret := (some .int)) (by decide) rfl ?_
  intro p e s m args below meth c s₁ B0 hml hv
  obtain ⟨hav, hsz, hP, hK, hD, hN, hZ⟩ := hv
  have hx := B0.exec
  have hb := B0.bytes
  have hr := B0.returns
  have hts := atoms_spec (ws := wsX4_work) B0.pre
  have hown : s.vm.findClass RX4 = some m.cls := findClass_of_methodNamed B0.named
  have hlocks := B0.notSynchronized
  subst hsz
  have hD := hD.self (sz := s.heap.size)
  have hA : ∀ q : Nat, s.heap.size ≤ q → va_A (List.flatten [wT g, wS cT g 1 u_now, wH cT g 25 u_history, wS cT g 27 u_history_r0, wS cT g 35 u_history_r1, wS cT g 43 u_history_r2, wS cT g 51 u_history_r3, wS cT g 59 u_history_r4, wS cT g 67 u_history_r5]) s.heap.size q := fun q h => Or.inr h
  generalize va_A (List.flatten [wT g, wS cT g 1 u_now, wH cT g 25 u_history, wS cT g 27 u_history_r0, wS cT g 35 u_history_r1, wS cT g 43 u_history_r2, wS cT g 51 u_history_r3, wS cT g 59 u_history_r4, wS cT g 67 u_history_r5]) s.heap.size = A at hD hZ hA ⊢
  have hS : va_S A s.heap s.heap [] := va_S.rf
  have hl := lv_entry ([.ref (g 0), .int p0]) (n := 2) (Nat.le_of_ble_eq_true rfl)
  rw [hav]
  rw [lg_entry_eq]
  generalize (lg_sl ([.ref (g 0), .int p0]) ++ List.replicate (2 - (lg_sl ([.ref (g 0), .int p0])).length) Slot.unset).toArray = ls at hl ⊢
  have hl : lv_has ls 2 [(0, .ref (g 0)), (1, .int p0)] := hl
  rw [← hav]
  generalize hQ : MQ below _ _ _ _ _ _ = Q
  show W p l e rm_X4_work s m args below meth c s.heap [] 0 0 Q (F0 m 0 ls [])
  unfold f_X4_work at hf
  refine lv_iload_n hx hb dX4_work_0 rfl (lv_at hl 1 rfl) ?_
  refine lv_iconst (v := 1) hx hb dX4_work_1 (by decide) ?_
  refine lv_sipush (v := 600) hx hb dX4_work_2 (by decide) ?_
  obtain ⟨o7, ho7, hf⟩ := bd_i hf
  refine cl_i [] [0, 1, 2, 3, 4, 5, 6, 7, 8] [wT g, wS cT g 1 u_now, wH cT g 25 u_history, wS cT g 27 u_history_r0, wS cT g 35 u_history_r1, wS cT g 43 u_history_r2, wS cT g 51 u_history_r3, wS cT g 59 u_history_r4, wS cT g 67 u_history_r5] hP (va_D_adr hD rfl) hA hS (va_runS (As := [.int p0, .int ((1 : Int32)), .int ((600 : Int32))]) (rest := []) ⟨hx, hb, hml, hown, hts⟩ (c_X4_isWithin l D cT g  fu  p0 ((1 : Int32)) ((600 : Int32)) o7 ho7 _) (va_cwS 3 hts gX4_work_X4_isWithin rfl rfl rfl (by decide +kernel) ⟨Nat.le_of_ble_eq_true rfl, Nat.le_of_ble_eq_true rfl⟩) ⟨PRE_blind, PRE_ok [] (by decide) hP (va_D_adr hD rfl) hA hS hK hN hZ⟩ rfl rfl hl.1 rfl (lv_room (Nat.le_of_ble_eq_true rfl)) dX4_work_5 ⟨Nat.le_of_ble_eq_true rfl, Nat.le_of_ble_eq_true rfl⟩) rfl 9 rfl (by decide) (by decide) (fun H locs hP hS => ?_)
  refine lv_if_ne (tgt := 14) hx hb dX4_work_8 (by decide) (fun c8 => ?_) (fun c8 => ?_)
  · replace hf := it_t hf c8
    refine lv_aload_n hx hb dX4_work_14 rfl (lv_at hl 0 rfl) ?_
    refine va_get (ci := 4) (v := .ref (g 1)) (C := RX4) (T := TX4) (N := 8) hx hb hts iw_X4_work_X4 hown hK hP 0 rfl rfl 0 (by decide) (hts (.fieldLink RX4 10 "BallastTrack" "now" "LBallastTrack$State;") (List.mem_of_getElem? (i := 2) rfl)) (fun _ h9 => h9) rfl dX4_work_15 ?_
    refine va_get (ci := 1) (v := .int (S_jb u_now)) (C := RX1) (T := TX1) (N := 9) hx hb hts iw_X4_work_X1 hown hK hP 1 rfl rfl 1 (by decide) (hts (.fieldLink RX4 119 "BallastTrack$State" "jobs" "I") (List.mem_of_getElem? (i := 3) rfl)) (fun _ h9 => h9) rfl dX4_work_18 ?_
    refine lv_topi (fun x9 ex9 => ?_)
    replace hf := nm_i hf ex9
    refine lv_if_ne (tgt := 27) hx hb dX4_work_21 (by decide) (fun c10 => ?_) (fun c10 => ?_)
    · replace hf := it_t hf c10
      refine lv_aload_n hx hb dX4_work_27 rfl (lv_at hl 0 rfl) ?_
      refine va_get (ci := 4) (v := .ref (g 25)) (C := RX4) (T := TX4) (N := 8) hx hb hts iw_X4_work_X4 hown hK hP 0 rfl rfl 4 (by decide) (hts (.fieldLink RX4 34 "BallastTrack" "history" "LBallastTrack$History;") (List.mem_of_getElem? (i := 5) rfl)) (fun _ h9 => h9) rfl dX4_work_28 ?_
      refine lv_aload_n hx hb dX4_work_31 rfl (lv_at hl 0 rfl) ?_
      refine va_get (ci := 4) (v := .ref (g 1)) (C := RX4) (T := TX4) (N := 8) hx hb hts iw_X4_work_X4 hown hK hP 0 rfl rfl 0 (by decide) (hts (.fieldLink RX4 10 "BallastTrack" "now" "LBallastTrack$State;") (List.mem_of_getElem? (i := 2) rfl)) (fun _ h9 => h9) rfl dX4_work_32 ?_
      obtain ⟨o11, ho11, hf⟩ := bd_i hf
      refine cl_v [2, 3, 4, 5, 6, 7, 8, 1] [0] [wT g, wS cT g 1 u_now, wH cT g 25 o11.1, wS cT g 27 o11.2.1, wS cT g 35 o11.2.2.1, wS cT g 43 o11.2.2.2.1, wS cT g 51 o11.2.2.2.2.1, wS cT g 59 o11.2.2.2.2.2.1, wS cT g 67 o11.2.2.2.2.2.2] hP (va_D_adr hD rfl) hA hS (va_runV (As := [.ref (g 1)]) (rest := []) ⟨hx, hb, hml, hown, hts⟩ (c_X0_save l D cT g 25 1 fu u_history u_history_r0 u_history_r1 u_history_r2 u_history_r3 u_history_r4 u_history_r5 u_now  o11 ho11 _) (cwV 1 hts gX4_work_X0_save rfl rfl rfl (by decide +kernel) ⟨Nat.le_of_ble_eq_true rfl, Nat.le_of_ble_eq_true rfl⟩) ⟨PRE_blind, va_recv hK hP (ci := 0) (q0 := 9) rfl rfl, PRE_ok [2, 3, 4, 5, 6, 7, 8, 1] (by decide) hP (va_D_adr hD rfl) hA hS hK hN hZ⟩ rfl rfl hl.1 rfl (lv_room (Nat.le_of_ble_eq_true rfl)) dX4_work_35 ⟨Nat.le_of_ble_eq_true rfl, Nat.le_of_ble_eq_true rfl⟩) rfl 9 rfl (by decide) (by decide) (fun H locs hP hS => ?_)
      refine lv_aload_n hx hb dX4_work_38 rfl (lv_at hl 0 rfl) ?_
      refine va_get (ci := 4) (v := .ref (g 1)) (C := RX4) (T := TX4) (N := 8) hx hb hts iw_X4_work_X4 hown hK hP 0 rfl rfl 0 (by decide) (hts (.fieldLink RX4 10 "BallastTrack" "now" "LBallastTrack$State;") (List.mem_of_getElem? (i := 2) rfl)) (fun _ h9 => h9) rfl dX4_work_39 ?_
      refine lv_iload_n hx hb dX4_work_42 rfl (lv_at hl 1 rfl) ?_
      obtain ⟨o12, ho12, hf⟩ := bd_i hf
      refine cl_i [1] [0, 2, 3, 4, 5, 6, 7, 8] [wT g, wS cT g 1 o12.2, wH cT g 25 o11.1, wS cT g 27 o11.2.1, wS cT g 35 o11.2.2.1, wS cT g 43 o11.2.2.2.1, wS cT g 51 o11.2.2.2.2.1, wS cT g 59 o11.2.2.2.2.2.1, wS cT g 67 o11.2.2.2.2.2.2] hP (va_D_adr hD rfl) hA hS (va_runV (As := [.int p0]) (rest := []) ⟨hx, hb, hml, hown, hts⟩ (c_X1_tamp l D cT g 1 fu u_now p0 o12 ho12 _) (cwV 1 hts gX4_work_X1_tamp rfl rfl rfl (by decide +kernel) ⟨Nat.le_of_ble_eq_true rfl, Nat.le_of_ble_eq_true rfl⟩) ⟨PRE_blind, va_recv hK hP (ci := 1) (q0 := 1) rfl rfl, PRE_ok [1] (by decide) hP (va_D_adr hD rfl) hA hS hK hN hZ⟩ rfl rfl hl.1 rfl (lv_room (Nat.le_of_ble_eq_true rfl)) dX4_work_43 ⟨Nat.le_of_ble_eq_true rfl, Nat.le_of_ble_eq_true rfl⟩) rfl 9 rfl (by decide) (by decide) (fun H locs hP hS => ?_)
      obtain rfl := Option.some.inj hf
      subst hQ
      exact en_i hx hb hr hP hS hlocks dX4_work_46
    · replace hf := it_f hf (not_not_intro c10)
      refine lv_ldc (v := -100002) hx hb hown (hts (.constant RX4 133 (-100002)) (List.mem_of_getElem? (i := 4) rfl)) dX4_work_24 ?_
      obtain rfl := Option.some.inj hf
      subst hQ
      exact en_i hx hb hr hP hS hlocks dX4_work_26
  · replace hf := it_f hf (not_not_intro c8)
    refine lv_ldc (v := -100001) hx hb hown (hts (.constant RX4 57 (-100001)) (List.mem_of_getElem? (i := 1) rfl)) dX4_work_11 ?_
    obtain rfl := Option.some.inj hf
    subst hQ
    exact en_i hx hb hr hP hS hlocks dX4_work_13
def f_X4_isTrain (fu : Nat)  (p0 : Int32) (p1 : Int32) : Option (Bool) :=
bd (f_X4_isWithin fu  p0 ((1 : Int32)) ((200 : Int32))) fun (o8 : Bool) =>
jn (some (false)
) fun K25_12 =>
if bI o8 = 0 then (
K25_12 
)
else (
bd (f_X4_isWithin fu  p1 ((1 : Int32)) ((30 : Int32))) fun (o14 : Bool) =>
if bI o14 = 0 then (
K25_12 
)
else (
some (true)
)
)

abbrev rm_X4_isTrain : Room := { frames := 1, cells := 0, slots := 0, locals := 22 }
set_option maxHeartbeats 4000000 in
set_option maxRecDepth 100000 in
theorem c_X4_isTrain (l : Launch) (D : va_G) (cT : Nat → ClassId) (g : Nat → Nat) (fu : Nat)  (p0 : Int32) (p1 : Int32) (o : Bool) (hf : f_X4_isTrain fu  p0 p1 = some o) (sz : Nat) : Met l yX4_isTrain wsX4_isTrain rm_X4_isTrain (va_Pc [.int p0, .int p1] (PRE D cT sz (List.flatten []))) (QI D (bI o) (List.flatten []) (va_A (List.flatten []) sz)) 0 0 (va_A (List.flatten []) sz) := by
  refine Met.ofW (cc := cX4_isTrain) (maxL := 2) (ret := (some .boolean)) (by decide) rfl ?_
  intro p e s m args below meth c s₁ B0 hml hv
  obtain ⟨hav, hsz, hP, hK, hD, hN, hZ⟩ := hv
  have hx := B0.exec
  have hb := B0.bytes
  have hr := B0.returns
  have hts := atoms_spec (ws := wsX4_isTrain) B0.pre
  have hown : s.vm.findClass RX4 = some m.cls := findClass_of_methodNamed B0.named
  have hlocks := B0.notSynchronized
  subst hsz
  have hD := hD.self (sz := s.heap.size)
  have hA : ∀ q : Nat, s.heap.size ≤ q → va_A (List.flatten []) s.heap.size q := fun q h => Or.inr h
  generalize va_A (List.flatten []) s.heap.size = A at hD hZ hA ⊢
  have hS : va_S A s.heap s.heap [] := va_S.rf
  have hl := lv_entry ([.int p0, .int p1]) (n := 2) (Nat.le_of_ble_eq_true rfl)
  rw [hav]
  rw [lg_entry_eq]
  generalize (lg_sl ([.int p0, .int p1]) ++ List.replicate (2 - (lg_sl ([.int p0, .int p1])).length) Slot.unset).toArray = ls at hl ⊢
  have hl : lv_has ls 2 [(0, .int p0), (1, .int p1)] := hl
  rw [← hav]
  generalize hQ : MQ below _ _ _ _ _ _ = Q
  show W p l e rm_X4_isTrain s m args below meth c s.heap [] 0 0 Q (F0 m 0 ls [])
  unfold f_X4_isTrain at hf
  refine lv_iload_n hx hb dX4_isTrain_0 rfl (lv_at hl 0 rfl) ?_
  refine lv_iconst (v := 1) hx hb dX4_isTrain_1 (by decide) ?_
  refine lv_sipush (v := 200) hx hb dX4_isTrain_2 (by decide) ?_
  obtain ⟨o8, ho8, hf⟩ := bd_i hf
  refine cl_i [] [] [] hP (va_D_adr hD rfl) hA hS (va_runS (As := [.int p0, .int ((1 : Int32)), .int ((200 : Int32))]) (rest := []) ⟨hx, hb, hml, hown, hts⟩ (c_X4_isWithin l D cT g  fu  p0 ((1 : Int32)) ((200 : Int32)) o8 ho8 _) (va_cwS 3 hts gX4_isTrain_X4_isWithin rfl rfl rfl (by decide +kernel) ⟨Nat.le_of_ble_eq_true rfl, Nat.le_of_ble_eq_true rfl⟩) ⟨PRE_blind, PRE_ok [] (by decide) hP (va_D_adr hD rfl) hA hS hK hN hZ⟩ rfl rfl hl.1 rfl (lv_room (Nat.le_of_ble_eq_true rfl)) dX4_isTrain_5 ⟨Nat.le_of_ble_eq_true rfl, Nat.le_of_ble_eq_true rfl⟩) rfl 0 rfl (by decide) (by decide) (fun H locs hP hS => ?_)
  obtain ⟨K25_12, eK25_12, hf⟩ := jn_i hf
  have hK25_12 : ∀  (H : Heap) (locs : List Loc) (ls : Array Slot), K25_12  = some o → va_P D vwCl (List.flatten []) H → va_S A s.heap H locs → lv_has ls 2 [] → W p l e rm_X4_isTrain s m args below meth c H locs 0 0 Q (F0 m 25 ls []) := by
    intro  H locs ls hf hP hS hl
    rw [eK25_12] at hf
    refine lv_iconst (v := 0) hx hb dX4_isTrain_25 (by decide) ?_
    obtain rfl := Option.some.inj hf
    subst hQ
    exact en_z (v := false) hx hb hr hP hS hlocks dX4_isTrain_26
  clear eK25_12
  refine lv_if_eq (tgt := 25) hx hb dX4_isTrain_8 (by decide) (fun c13 => ?_) (fun c13 => ?_)
  · replace hf := it_t hf c13
    exact hK25_12  _ _ _ hf hP hS (lv_sub hl [] rfl)
  · replace hf := it_f hf c13
    refine lv_iload_n hx hb dX4_isTrain_11 rfl (lv_at hl 1 rfl) ?_
    refine lv_iconst (v := 1) hx hb dX4_isTrain_12 (by decide) ?_
    refine lv_bipush (v := 30) hx hb dX4_isTrain_13 (by decide) ?_
    obtain ⟨o14, ho14, hf⟩ := bd_i hf
    refine cl_i [] [] [] hP (va_D_adr hD rfl) hA hS (va_runS (As := [.int p1, .int ((1 : Int32)), .int ((30 : Int32))]) (rest := []) ⟨hx, hb, hml, hown, hts⟩ (c_X4_isWithin l D cT g  fu  p1 ((1 : Int32)) ((30 : Int32)) o14 ho14 _) (va_cwS 3 hts gX4_isTrain_X4_isWithin rfl rfl rfl (by decide +kernel) ⟨Nat.le_of_ble_eq_true rfl, Nat.le_of_ble_eq_true rfl⟩) ⟨PRE_blind, PRE_ok [] (by decide) hP (va_D_adr hD rfl) hA hS hK hN hZ⟩ rfl rfl hl.1 rfl (lv_room (Nat.le_of_ble_eq_true rfl)) dX4_isTrain_15 ⟨Nat.le_of_ble_eq_true rfl, Nat.le_of_ble_eq_true rfl⟩) rfl 0 rfl (by decide) (by decide) (fun H locs hP hS => ?_)
    refine lv_if_eq (tgt := 25) hx hb dX4_isTrain_18 (by decide) (fun c15 => ?_) (fun c15 => ?_)
    · replace hf := it_t hf c15
      exact hK25_12  _ _ _ hf hP hS (lv_sub hl [] rfl)
    · replace hf := it_f hf c15
      refine lv_iconst (v := 1) hx hb dX4_isTrain_21 (by decide) ?_
      refine lv_goto (tgt := 26) hx hb dX4_isTrain_22 (by decide) ?_
      obtain rfl := Option.some.inj hf
      subst hQ
      exact en_z (v := true) hx hb hr hP hS hlocks dX4_isTrain_26
def f_X4_minutesLostBy (fu : Nat)  (p0 : Int32) : Option (Int32) :=
if p0 = (0 : Int32) then (
some ((0 : Int32))
)
else if p0 = (1 : Int32) then (
some ((2 : Int32))
)
else (
some ((6 : Int32))
)

abbrev rm_X4_minutesLostBy : Room := { frames := 0, cells := 0, slots := 0, locals := 0 }
set_option maxHeartbeats 4000000 in
set_option maxRecDepth 100000 in
theorem c_X4_minutesLostBy (l : Launch) (D : va_G) (cT : Nat → ClassId) (g : Nat → Nat) (fu : Nat)  (p0 : Int32) (o : Int32) (hf : f_X4_minutesLostBy fu  p0 = some o) (sz : Nat) : Met l yX4_minutesLostBy wsX4_minutesLostBy rm_X4_minutesLostBy (va_Pc [.int p0] (PRE D cT sz (List.flatten []))) (QI D o (List.flatten []) (va_A (List.flatten []) sz)) 0 0 (va_A (List.flatten []) sz) := by
  refine Met.ofW (cc := cX4_minutesLostBy) (maxL := 1) (ret := (some .int)) (by decide) rfl ?_
  intro p e s m args below meth c s₁ B0 hml hv
  obtain ⟨hav, hsz, hP, hK, hD, hN, hZ⟩ := hv
  have hx := B0.exec
  have hb := B0.bytes
  have hr := B0.returns
  have hts := atoms_spec (ws := wsX4_minutesLostBy) B0.pre
  have hown : s.vm.findClass RX4 = some m.cls := findClass_of_methodNamed B0.named
  have hlocks := B0.notSynchronized
  subst hsz
  have hD := hD.self (sz := s.heap.size)
  have hA : ∀ q : Nat, s.heap.size ≤ q → va_A (List.flatten []) s.heap.size q := fun q h => Or.inr h
  generalize va_A (List.flatten []) s.heap.size = A at hD hZ hA ⊢
  have hS : va_S A s.heap s.heap [] := va_S.rf
  have hl := lv_entry ([.int p0]) (n := 1) (Nat.le_of_ble_eq_true rfl)
  rw [hav]
  rw [lg_entry_eq]
  generalize (lg_sl ([.int p0]) ++ List.replicate (1 - (lg_sl ([.int p0])).length) Slot.unset).toArray = ls at hl ⊢
  have hl : lv_has ls 1 [(0, .int p0)] := hl
  rw [← hav]
  generalize hQ : MQ below _ _ _ _ _ _ = Q
  show W p l e rm_X4_minutesLostBy s m args below meth c s.heap [] 0 0 Q (F0 m 0 ls [])
  unfold f_X4_minutesLostBy at hf
  refine lv_iload_n hx hb dX4_minutesLostBy_0 rfl (lv_at hl 0 rfl) ?_
  by_cases c3 : p0 = (0 : Int32)
  · replace hf := it_t hf c3
    refine lv_lookup (off := 27) (tgt := 28) hx hb dX4_minutesLostBy_1 (by decide) (by rw [c3]; decide) (by decide) ?_
    refine lv_iconst (v := 0) hx hb dX4_minutesLostBy_28 (by decide) ?_
    obtain rfl := Option.some.inj hf
    subst hQ
    exact en_i hx hb hr hP hS hlocks dX4_minutesLostBy_29
  replace hf := it_f hf c3
  by_cases c4 : p0 = (1 : Int32)
  · replace hf := it_t hf c4
    refine lv_lookup (off := 29) (tgt := 30) hx hb dX4_minutesLostBy_1 (by decide) (by rw [c4]; decide) (by decide) ?_
    refine lv_iconst (v := 2) hx hb dX4_minutesLostBy_30 (by decide) ?_
    obtain rfl := Option.some.inj hf
    subst hQ
    exact en_i hx hb hr hP hS hlocks dX4_minutesLostBy_31
  replace hf := it_f hf c4
  refine lv_lookup (off := 31) (tgt := 32) hx hb dX4_minutesLostBy_1 (by decide) ((lv_osw (k := 0) c3 (by decide)).trans ((lv_osw (k := 1) c4 (by decide)).trans (rfl))) (by decide) ?_
  refine lv_bipush (v := 6) hx hb dX4_minutesLostBy_32 (by decide) ?_
  obtain rfl := Option.some.inj hf
  subst hQ
  exact en_i hx hb hr hP hS hlocks dX4_minutesLostBy_34
def f_X4_shareOf (fu : Nat)  (p0 : Int32) : Option (Int32) :=
if p0 = (0 : Int32) then (
some ((100 : Int32))
)
else if p0 = (1 : Int32) then (
some ((70 : Int32))
)
else (
some ((40 : Int32))
)

abbrev rm_X4_shareOf : Room := { frames := 0, cells := 0, slots := 0, locals := 0 }
set_option maxHeartbeats 4000000 in
set_option maxRecDepth 100000 in
theorem c_X4_shareOf (l : Launch) (D : va_G) (cT : Nat → ClassId) (g : Nat → Nat) (fu : Nat)  (p0 : Int32) (o : Int32) (hf : f_X4_shareOf fu  p0 = some o) (sz : Nat) : Met l yX4_shareOf wsX4_shareOf rm_X4_shareOf (va_Pc [.int p0] (PRE D cT sz (List.flatten []))) (QI D o (List.flatten []) (va_A (List.flatten []) sz)) 0 0 (va_A (List.flatten []) sz) := by
  refine Met.ofW (cc := cX4_shareOf) (maxL := 1) (ret := (some .int)) (by decide) rfl ?_
  intro p e s m args below meth c s₁ B0 hml hv
  obtain ⟨hav, hsz, hP, hK, hD, hN, hZ⟩ := hv
  have hx := B0.exec
  have hb := B0.bytes
  have hr := B0.returns
  have hts := atoms_spec (ws := wsX4_shareOf) B0.pre
  have hown : s.vm.findClass RX4 = some m.cls := findClass_of_methodNamed B0.named
  have hlocks := B0.notSynchronized
  subst hsz
  have hD := hD.self (sz := s.heap.size)
  have hA : ∀ q : Nat, s.heap.size ≤ q → va_A (List.flatten []) s.heap.size q := fun q h => Or.inr h
  generalize va_A (List.flatten []) s.heap.size = A at hD hZ hA ⊢
  have hS : va_S A s.heap s.heap [] := va_S.rf
  have hl := lv_entry ([.int p0]) (n := 1) (Nat.le_of_ble_eq_true rfl)
  rw [hav]
  rw [lg_entry_eq]
  generalize (lg_sl ([.int p0]) ++ List.replicate (1 - (lg_sl ([.int p0])).length) Slot.unset).toArray = ls at hl ⊢
  have hl : lv_has ls 1 [(0, .int p0)] := hl
  rw [← hav]
  generalize hQ : MQ below _ _ _ _ _ _ = Q
  show W p l e rm_X4_shareOf s m args below meth c s.heap [] 0 0 Q (F0 m 0 ls [])
  unfold f_X4_shareOf at hf
  refine lv_iload_n hx hb dX4_shareOf_0 rfl (lv_at hl 0 rfl) ?_
  by_cases c3 : p0 = (0 : Int32)
  · replace hf := it_t hf c3
    refine lv_lookup (off := 27) (tgt := 28) hx hb dX4_shareOf_1 (by decide) (by rw [c3]; decide) (by decide) ?_
    refine lv_bipush (v := 100) hx hb dX4_shareOf_28 (by decide) ?_
    obtain rfl := Option.some.inj hf
    subst hQ
    exact en_i hx hb hr hP hS hlocks dX4_shareOf_30
  replace hf := it_f hf c3
  by_cases c4 : p0 = (1 : Int32)
  · replace hf := it_t hf c4
    refine lv_lookup (off := 30) (tgt := 31) hx hb dX4_shareOf_1 (by decide) (by rw [c4]; decide) (by decide) ?_
    refine lv_bipush (v := 70) hx hb dX4_shareOf_31 (by decide) ?_
    obtain rfl := Option.some.inj hf
    subst hQ
    exact en_i hx hb hr hP hS hlocks dX4_shareOf_33
  replace hf := it_f hf c4
  refine lv_lookup (off := 33) (tgt := 34) hx hb dX4_shareOf_1 (by decide) ((lv_osw (k := 0) c3 (by decide)).trans ((lv_osw (k := 1) c4 (by decide)).trans (rfl))) (by decide) ?_
  refine lv_bipush (v := 40) hx hb dX4_shareOf_34 (by decide) ?_
  obtain rfl := Option.some.inj hf
  subst hQ
  exact en_i hx hb hr hP hS hlocks dX4_shareOf_36
theorem iw_X4_settlement_X1 : ∀ w ∈ u_ws RX1 TX1 9, w ∈ wsX4_settlement := by decide +kernel
theorem iw_X4_settlement_X2 : ∀ w ∈ u_ws RX2 TX2 8, w ∈ wsX4_settlement := by decide +kernel
def f_X4_settlement (fu : Nat) (u_sv : TV) (u_st : TS) (p1 : Int32) (p2 : Int32) : Option (Int32) :=
nm (p2.toInt64) fun (y17 : Int64) =>
ix p1 60 <|
nm ((V_lo u_sv) p1.toNatClampNeg) fun (x19 : Int32) =>
nm (x19.toInt64) fun (y20 : Int64) =>
nm (y17 * y20) fun (y21 : Int64) =>
ix p1 60 <|
nm ((S_fo u_st) p1.toNatClampNeg) fun (x23 : Int32) =>
nm ((100 : Int32) + x23) fun (x24 : Int32) =>
nm (x24.toInt64) fun (y25 : Int64) =>
nm (y21 * y25) fun (y26 : Int64) =>
nm (V_od u_sv) fun (x27 : Int32) =>
bd (f_X4_shareOf fu  x27) fun (o28 : Int32) =>
nm (o28.toInt64) fun (y29 : Int64) =>
nm (y26 * y29) fun (y30 : Int64) =>
nm (y30 / (4000000 : Int64)) fun (y31 : Int64) =>
nm (y31.toInt32) fun (x32 : Int32) =>
some (x32)

abbrev rm_X4_settlement : Room := { frames := 1, cells := 0, slots := 0, locals := 20 }
set_option maxHeartbeats 4000000 in
set_option maxRecDepth 100000 in
theorem c_X4_settlement (l : Launch) (D : va_G) (cT : Nat → ClassId) (g : Nat → Nat) (b t : Nat) (fu : Nat) (u_sv : TV) (u_st : TS) (p1 : Int32) (p2 : Int32) (o : Int32) (hf : f_X4_settlement fu u_sv u_st p1 p2 = some o) (sz : Nat) : Met l yX4_settlement wsX4_settlement rm_X4_settlement (va_Pc [.ref (g b), .int p1, .int p2] (PRE D cT sz (List.flatten [wV cT g b t u_sv, wS cT g t u_st]))) (QI D o (List.flatten [wV cT g b t u_sv, wS cT g t u_st]) (va_A (List.flatten [wV cT g b t u_sv, wS cT g t u_st]) sz)) 0 0 (va_A (List.flatten [wV cT g b t u_sv, wS cT g t u_st]) sz) := by
  refine Met.ofW (cc := cX4_settlement) (maxL := 5) (ret := (some .int)) (by decide) rfl ?_
  intro p e s m args below meth c s₁ B0 hml hv
  obtain ⟨hav, hsz, hP, hK, hD, hN, hZ⟩ := hv
  have hx := B0.exec
  have hb := B0.bytes
  have hr := B0.returns
  have hts := atoms_spec (ws := wsX4_settlement) B0.pre
  have hown : s.vm.findClass RX4 = some m.cls := findClass_of_methodNamed B0.named
  have hlocks := B0.notSynchronized
  subst hsz
  have hD := hD.self (sz := s.heap.size)
  have hA : ∀ q : Nat, s.heap.size ≤ q → va_A (List.flatten [wV cT g b t u_sv, wS cT g t u_st]) s.heap.size q := fun q h => Or.inr h
  generalize va_A (List.flatten [wV cT g b t u_sv, wS cT g t u_st]) s.heap.size = A at hD hZ hA ⊢
  have hS : va_S A s.heap s.heap [] := va_S.rf
  have hl := lv_entry ([.ref (g b), .int p1, .int p2]) (n := 5) (Nat.le_of_ble_eq_true rfl)
  rw [hav]
  rw [lg_entry_eq]
  generalize (lg_sl ([.ref (g b), .int p1, .int p2]) ++ List.replicate (5 - (lg_sl ([.ref (g b), .int p1, .int p2])).length) Slot.unset).toArray = ls at hl ⊢
  have hl : lv_has ls 5 [(0, .ref (g b)), (1, .int p1), (2, .int p2)] := hl
  rw [← hav]
  generalize hQ : MQ below _ _ _ _ _ _ = Q
  show W p l e rm_X4_settlement s m args below meth c s.heap [] 0 0 Q (F0 m 0 ls [])
  unfold f_X4_settlement at hf
  refine lv_iload_n hx hb dX4_settlement_0 rfl (lv_at hl 2 rfl) ?_
  refine lv_i2l (v := p2.toInt64) hx hb dX4_settlement_1 rfl ?_
  refine lv_topl (fun y17 ey17 => ?_)
  replace hf := nm_i hf ey17
  refine lv_aload_n hx hb dX4_settlement_2 rfl (lv_at hl 0 rfl) ?_
  refine va_get (ci := 2) (v := .ref (g (b + 2))) (C := RX2) (T := TX2) (N := 8) hx hb hts iw_X4_settlement_X2 hown hK hP 0 rfl rfl 2 (by decide) (hts (.fieldLink RX4 216 "BallastTrack$Survey" "loads" "[I") (List.mem_of_getElem? (i := 1) rfl)) (fun _ h9 => h9) rfl dX4_settlement_3 ?_
  refine lv_iload_n hx hb dX4_settlement_6 rfl (lv_at hl 1 rfl) ?_
  obtain ⟨hi18, hf⟩ := ix_i hf
  refine va_iald hx hb hK hP 2 0 rfl rfl hi18 dX4_settlement_7 ?_
  refine lv_topi (fun x19 ex19 => ?_)
  replace hf := nm_i hf ex19
  refine lv_i2l (v := x19.toInt64) hx hb dX4_settlement_8 rfl ?_
  refine lv_topl (fun y20 ey20 => ?_)
  replace hf := nm_i hf ey20
  refine lv_lmul hx hb dX4_settlement_9 ?_
  refine lv_topl (fun y21 ey21 => ?_)
  replace hf := nm_i hf ey21
  refine lv_bipush (v := 100) hx hb dX4_settlement_10 (by decide) ?_
  refine lv_aload_n hx hb dX4_settlement_12 rfl (lv_at hl 0 rfl) ?_
  refine va_get (ci := 2) (v := .ref (g t)) (C := RX2) (T := TX2) (N := 8) hx hb hts iw_X4_settlement_X2 hown hK hP 0 rfl rfl 0 (by decide) (hts (.fieldLink RX4 234 "BallastTrack$Survey" "track" "LBallastTrack$State;") (List.mem_of_getElem? (i := 2) rfl)) (fun _ h9 => h9) rfl dX4_settlement_13 ?_
  refine va_get (ci := 1) (v := .ref (g (t + 3))) (C := RX1) (T := TX1) (N := 9) hx hb hts iw_X4_settlement_X1 hown hK hP 4 rfl rfl 4 (by decide) (hts (.fieldLink RX4 116 "BallastTrack$State" "foulings" "[I") (List.mem_of_getElem? (i := 3) rfl)) (fun _ h9 => h9) rfl dX4_settlement_16 ?_
  refine lv_iload_n hx hb dX4_settlement_19 rfl (lv_at hl 1 rfl) ?_
  obtain ⟨hi22, hf⟩ := ix_i hf
  refine va_iald hx hb hK hP 7 0 rfl rfl hi22 dX4_settlement_20 ?_
  refine lv_topi (fun x23 ex23 => ?_)
  replace hf := nm_i hf ex23
  refine lv_iadd hx hb dX4_settlement_21 ?_
  refine lv_topi (fun x24 ex24 => ?_)
  replace hf := nm_i hf ex24
  refine lv_i2l (v := x24.toInt64) hx hb dX4_settlement_22 rfl ?_
  refine lv_topl (fun y25 ey25 => ?_)
  replace hf := nm_i hf ey25
  refine lv_lmul hx hb dX4_settlement_23 ?_
  refine lv_topl (fun y26 ey26 => ?_)
  replace hf := nm_i hf ey26
  refine lv_aload_n hx hb dX4_settlement_24 rfl (lv_at hl 0 rfl) ?_
  refine va_get (ci := 2) (v := .int (V_od u_sv)) (C := RX2) (T := TX2) (N := 8) hx hb hts iw_X4_settlement_X2 hown hK hP 0 rfl rfl 7 (by decide) (hts (.fieldLink RX4 143 "BallastTrack$Survey" "order" "I") (List.mem_of_getElem? (i := 4) rfl)) (fun _ h9 => h9) rfl dX4_settlement_25 ?_
  refine lv_topi (fun x27 ex27 => ?_)
  replace hf := nm_i hf ex27
  obtain ⟨o28, ho28, hf⟩ := bd_i hf
  refine cl_i [] [0, 1] [wV cT g b t u_sv, wS cT g t u_st] hP (va_D_adr hD rfl) hA hS (va_runS (As := [.int x27]) (rest := [.long y26]) ⟨hx, hb, hml, hown, hts⟩ (c_X4_shareOf l D cT g  fu  x27 o28 ho28 _) (va_cwS 1 hts gX4_settlement_X4_shareOf rfl rfl rfl (by decide +kernel) ⟨Nat.le_of_ble_eq_true rfl, Nat.le_of_ble_eq_true rfl⟩) ⟨PRE_blind, PRE_ok [] (by decide) hP (va_D_adr hD rfl) hA hS hK hN hZ⟩ rfl rfl hl.1 rfl (lv_room (Nat.le_of_ble_eq_true rfl)) dX4_settlement_28 ⟨Nat.le_of_ble_eq_true rfl, Nat.le_of_ble_eq_true rfl⟩) rfl 2 rfl (by decide) (by decide) (fun H locs hP hS => ?_)
  refine lv_i2l (v := o28.toInt64) hx hb dX4_settlement_31 rfl ?_
  refine lv_topl (fun y29 ey29 => ?_)
  replace hf := nm_i hf ey29
  refine lv_lmul hx hb dX4_settlement_32 ?_
  refine lv_topl (fun y30 ey30 => ?_)
  replace hf := nm_i hf ey30
  refine lv_lstore_n (lv' := [(3, .long y30), (0, .ref (g b)), (1, .int p1), (2, .int p2)]) hx hb dX4_settlement_33 rfl hl (by decide) rfl (fun ls hl => ?_)
  refine lv_lload_n hx hb dX4_settlement_34 rfl (lv_at hl 0 rfl) ?_
  refine lv_ldc2 (v := 4000000) hx hb hown (hts (.constantLong RX4 253 (4000000)) (List.mem_of_getElem? (i := 5) rfl)) dX4_settlement_35 ?_
  refine lv_ldiv hx hb dX4_settlement_38 (by decide) ?_
  refine lv_topl (fun y31 ey31 => ?_)
  replace hf := nm_i hf ey31
  refine lv_l2i (v := y31.toInt32) hx hb dX4_settlement_39 rfl ?_
  refine lv_topi (fun x32 ex32 => ?_)
  replace hf := nm_i hf ex32
  obtain rfl := Option.some.inj hf
  subst hQ
  exact en_i hx hb hr hP hS hlocks dX4_settlement_40
theorem iw_X4_passTrain_X1 : ∀ w ∈ u_ws RX1 TX1 9, w ∈ wsX4_passTrain := by decide +kernel
theorem iw_X4_passTrain_X2 : ∀ w ∈ u_ws RX2 TX2 8, w ∈ wsX4_passTrain := by decide +kernel
def lb_X4_passTrain_12 (fu : Nat) (p1 : Int32) (p2 : Int32) (o38 : TV) (rec : Int32 → TS → Option (TS)) (v59 : Int32) (u60 : TS) : Option (TS) :=
nm (S_sl u60) fun (x63 : Int32) =>
if x63 ≤ v59 then (
some (u60)
)
else (
ix v59 60 <|
nm ((V_ha o38) v59.toNatClampNeg) fun (x66 : Int32) =>
jn (fun (u72 : TS) =>
nm (v59 + (1 : Int32)) fun (x75 : Int32) =>
rec x75 u72
) fun K56_74 =>
if x66 = 0 then (
nm (p1 * p2) fun (x77 : Int32) =>
bd (f_X4_settlement fu o38 u60 v59 x77) fun (o78 : Int32) =>
bd (f_X1_settle fu u60 v59 o78) fun (o79 : TS) =>
K56_74 o79
)
else (
bd (f_X1_foul fu u60 v59 ((1 : Int32))) fun (o80 : TS) =>
K56_74 o80
)
)

def lf_X4_passTrain_12 (fu : Nat) (p1 : Int32) (p2 : Int32) (o38 : TV) : Nat → Int32 → TS → Option (TS) := lq_2 (lb_X4_passTrain_12 fu p1 p2 o38)
def f_X4_passTrain (fu : Nat) (u_sv : TV) (u_st : TS) (p1 : Int32) (p2 : Int32) : Option (TV × TS) :=
bd (f_X2_findLoads fu u_sv u_st ) fun (o38 : TV) =>
bd (lf_X4_passTrain_12 fu p1 p2 o38 fu ((0 : Int32)) u_st) fun (z62 : TS) =>
nm (S_ac z62 2) fun (x81 : Int32) =>
nm (V_od o38) fun (x82 : Int32) =>
bd (f_X4_minutesLostBy fu  x82) fun (o83 : Int32) =>
nm (x81 + o83) fun (x84 : Int32) =>
nm (S_ac_ z62 (upd (S_ac z62) 2 x84)) fun (u85 : TS) =>
nm (S_ac u85 4) fun (x86 : Int32) =>
nm (x86 + (1 : Int32)) fun (x87 : Int32) =>
nm (S_ac_ u85 (upd (S_ac u85) 4 x87)) fun (u88 : TS) =>
nm (S_ac u88 5) fun (x89 : Int32) =>
nm (p1 * p2) fun (x90 : Int32) =>
nm (x89 + x90) fun (x91 : Int32) =>
nm (S_ac_ u88 (upd (S_ac u88) 5 x91)) fun (u92 : TS) =>
bd (f_X2_look fu o38 u92 ) fun (o93 : TV) =>
some (o93, u92)

abbrev rm_X4_passTrain : Room := { frames := 4, cells := 0, slots := 0, locals := 86 }
set_option maxHeartbeats 4000000 in
set_option maxRecDepth 100000 in
theorem c_X4_passTrain (l : Launch) (D : va_G) (cT : Nat → ClassId) (g : Nat → Nat) (b t : Nat) (fu : Nat) (u_sv : TV) (u_st : TS) (p1 : Int32) (p2 : Int32) (o : TV × TS) (hf : f_X4_passTrain fu u_sv u_st p1 p2 = some o) (sz : Nat) : Met l yX4_passTrain wsX4_passTrain rm_X4_passTrain (va_Pc [.ref (g b), .int p1, .int p2] (PRE D cT sz (List.flatten [wV cT g b t u_sv, wS cT g t u_st]))) (QV D (List.flatten [wV cT g b t o.1, wS cT g t o.2]) (va_A (List.flatten [wV cT g b t u_sv, wS cT g t u_st]) sz)) 0 0 (va_A (List.flatten [wV cT g b t u_sv, wS cT g t u_st]) sz) := by
  refine Met.ofW (cc := cX4_passTrain) (maxL := 5) (ret := none) (by decide) rfl ?_
  intro p e s m args below meth c s₁ B0 hml hv
  obtain ⟨hav, hsz, hP, hK, hD, hN, hZ⟩ := hv
  have hx := B0.exec
  have hb := B0.bytes
  have hr := B0.returns
  have hts := atoms_spec (ws := wsX4_passTrain) B0.pre
  have hown : s.vm.findClass RX4 = some m.cls := findClass_of_methodNamed B0.named
  have hlocks := B0.notSynchronized
  subst hsz
  have hD := hD.self (sz := s.heap.size)
  have hA : ∀ q : Nat, s.heap.size ≤ q → va_A (List.flatten [wV cT g b t u_sv, wS cT g t u_st]) s.heap.size q := fun q h => Or.inr h
  generalize va_A (List.flatten [wV cT g b t u_sv, wS cT g t u_st]) s.heap.size = A at hD hZ hA ⊢
  have hS : va_S A s.heap s.heap [] := va_S.rf
  have hl := lv_entry ([.ref (g b), .int p1, .int p2]) (n := 5) (Nat.le_of_ble_eq_true rfl)
  rw [hav]
  rw [lg_entry_eq]
  generalize (lg_sl ([.ref (g b), .int p1, .int p2]) ++ List.replicate (5 - (lg_sl ([.ref (g b), .int p1, .int p2])).length) Slot.unset).toArray = ls at hl ⊢
  have hl : lv_has ls 5 [(0, .ref (g b)), (1, .int p1), (2, .int p2)] := hl
  rw [← hav]
  generalize hQ : MQ below _ _ _ _ _ _ = Q
  show W p l e rm_X4_passTrain s m args below meth c s.heap [] 0 0 Q (F0 m 0 ls [])
  unfold f_X4_passTrain at hf
  refine lv_aload_n hx hb dX4_passTrain_0 rfl (lv_at hl 0 rfl) ?_
  refine va_get (ci := 2) (v := .ref (g t)) (C := RX2) (T := TX2) (N := 8) hx hb hts iw_X4_passTrain_X2 hown hK hP 0 rfl rfl 0 (by decide) (hts (.fieldLink RX4 234 "BallastTrack$Survey" "track" "LBallastTrack$State;") (List.mem_of_getElem? (i := 1) rfl)) (fun _ h9 => h9) rfl dX4_passTrain_1 ?_
  refine lv_astore_n (lv' := [(3, .ref (g t)), (0, .ref (g b)), (1, .int p1), (2, .int p2)]) hx hb dX4_passTrain_4 rfl hl (by decide) rfl (fun ls hl => ?_)
  refine lv_aload_n hx hb dX4_passTrain_5 rfl (lv_at hl 1 rfl) ?_
  obtain ⟨o38, ho38, hf⟩ := bd_i hf
  refine cl_v [0, 1] [] [wV cT g b t o38, wS cT g t u_st] hP (va_D_adr hD rfl) hA hS (va_runV (As := []) (rest := []) ⟨hx, hb, hml, hown, hts⟩ (c_X2_findLoads l D cT g b t fu u_sv u_st  o38 ho38 _) (cwV 0 hts gX4_passTrain_X2_findLoads rfl rfl rfl (by decide +kernel) ⟨Nat.le_of_ble_eq_true rfl, Nat.le_of_ble_eq_true rfl⟩) ⟨PRE_blind, va_recv hK hP (ci := 2) (q0 := 0) rfl rfl, PRE_ok [0, 1] (by decide) hP (va_D_adr hD rfl) hA hS hK hN hZ⟩ rfl rfl hl.1 rfl (lv_room (Nat.le_of_ble_eq_true rfl)) dX4_passTrain_6 ⟨Nat.le_of_ble_eq_true rfl, Nat.le_of_ble_eq_true rfl⟩) rfl 2 rfl (by decide) (by decide) (fun H locs hP hS => ?_)
  refine lv_iconst (v := 0) hx hb dX4_passTrain_9 (by decide) ?_
  refine lv_istore (lv' := [(4, .int ((0 : Int32))), (3, .ref (g t)), (0, .ref (g b)), (1, .int p1), (2, .int p2)]) hx hb dX4_passTrain_10 hl (by decide) rfl (fun ls hl => ?_)
  obtain ⟨z62, hz62, hf⟩ := bd_i hf
  have hL12 : ∀ (n : Nat) (v59 : Int32) (u60 : TS) (z61 : TS), lf_X4_passTrain_12 fu p1 p2 o38 n v59 u60 = some z61 → ∀ (H : Heap) (locs : List Loc) (ls : Array Slot), va_P D vwCl (List.flatten [wV cT g b t o38, wS cT g t u60]) H → va_S A s.heap H locs → lv_has ls 5 [(0, .ref (g b)), (1, .int p1), (2, .int p2), (3, .ref (g t)), (4, .int v59)] → (∀ (H : Heap) (locs : List Loc) (ls : Array Slot), va_P D vwCl (List.flatten [wV cT g b t o38, wS cT g t z61]) H → va_S A s.heap H locs → lv_has ls 5 [(0, .ref (g b)), (1, .int p1), (2, .int p2), (3, .ref (g t))] → W p l e rm_X4_passTrain s m args below meth c H locs 0 0 Q (F0 m 62 ls [])) → W p l e rm_X4_passTrain s m args below meth c H locs 0 0 Q (F0 m 12 ls []) := by
    refine lq_2_ind (F := lb_X4_passTrain_12 fu p1 p2 o38) (fun rec ih v59 u60 z61 hf H locs ls hP hS hl kx => ?_)
    unfold lb_X4_passTrain_12 at hf
    refine lv_iload hx hb dX4_passTrain_12 (lv_at hl 4 rfl) ?_
    refine lv_aload_n hx hb dX4_passTrain_14 rfl (lv_at hl 3 rfl) ?_
    refine va_get (ci := 1) (v := .int (S_sl u60)) (C := RX1) (T := TX1) (N := 9) hx hb hts iw_X4_passTrain_X1 hown hK hP 4 rfl rfl 0 (by decide) (hts (.fieldLink RX4 58 "BallastTrack$State" "sleepers" "I") (List.mem_of_getElem? (i := 2) rfl)) (fun _ h9 => h9) rfl dX4_passTrain_15 ?_
    refine lv_topi (fun x63 ex63 => ?_)
    replace hf := nm_i hf ex63
    refine lv_icmp_ge (tgt := 62) hx hb dX4_passTrain_18 (by decide) (fun c64 => ?_) (fun c64 => ?_)
    · replace hf := it_t hf c64
      obtain rfl := Option.some.inj hf
      exact kx _ _ _ hP hS (lv_sub hl [0, 1, 2, 3] rfl)
    · replace hf := it_f hf c64
      refine lv_aload_n hx hb dX4_passTrain_21 rfl (lv_at hl 0 rfl) ?_
      refine va_get (ci := 2) (v := .ref (g (b + 3))) (C := RX2) (T := TX2) (N := 8) hx hb hts iw_X4_passTrain_X2 hown hK hP 0 rfl rfl 3 (by decide) (hts (.fieldLink RX4 210 "BallastTrack$Survey" "hanging" "[Z") (List.mem_of_getElem? (i := 3) rfl)) (fun _ h9 => h9) rfl dX4_passTrain_22 ?_
      refine lv_iload hx hb dX4_passTrain_25 (lv_at hl 4 rfl) ?_
      obtain ⟨hi65, hf⟩ := ix_i hf
      refine va_zald hx hb hK hP 3 1 rfl rfl hi65 dX4_passTrain_27 ?_
      refine lv_topi (fun x66 ex66 => ?_)
      replace hf := nm_i hf ex66
      obtain ⟨K56_74, eK56_74, hf⟩ := jn_i hf
      have hK56_74 : ∀ (u72 : TS) (H : Heap) (locs : List Loc) (ls : Array Slot), K56_74 u72 = some z61 → va_P D vwCl (List.flatten [wV cT g b t o38, wS cT g t u72]) H → va_S A s.heap H locs → lv_has ls 5 [(0, .ref (g b)), (1, .int p1), (2, .int p2), (3, .ref (g t)), (4, .int v59)] → W p l e rm_X4_passTrain s m args below meth c H locs 0 0 Q (F0 m 56 ls []) := by
        intro u72 H locs ls hf hP hS hl
        rw [eK56_74] at hf
        obtain ⟨x75, ex75⟩ : ∃ z : Int32, z = v59 + (1 : Int32) := ⟨_, rfl⟩
        replace hf := nm_i hf ex75
        refine lv_iinc (v := x75) (lv' := [(4, .int x75), (0, .ref (g b)), (1, .int p1), (2, .int p2), (3, .ref (g t))]) hx hb dX4_passTrain_56 hl (k := 4) rfl (by rw [ex75]; rfl) (by decide) rfl (fun ls hl => ?_)
        refine lv_goto (tgt := 12) hx hb dX4_passTrain_59 (by decide) ?_
        exact ih _ _ _ hf _ _ _ hP hS (lv_sub hl [1, 2, 3, 4, 0] rfl) kx
      clear eK56_74
      refine lv_if_eq (tgt := 41) hx hb dX4_passTrain_28 (by decide) (fun c76 => ?_) (fun c76 => ?_)
      · replace hf := it_t hf c76
        refine lv_aload_n hx hb dX4_passTrain_41 rfl (lv_at hl 3 rfl) ?_
        refine lv_iload hx hb dX4_passTrain_42 (lv_at hl 4 rfl) ?_
        refine lv_aload_n hx hb dX4_passTrain_44 rfl (lv_at hl 0 rfl) ?_
        refine lv_iload hx hb dX4_passTrain_45 (lv_at hl 4 rfl) ?_
        refine lv_iload_n hx hb dX4_passTrain_47 rfl (lv_at hl 1 rfl) ?_
        refine lv_iload_n hx hb dX4_passTrain_48 rfl (lv_at hl 2 rfl) ?_
        refine lv_imul hx hb dX4_passTrain_49 ?_
        refine lv_topi (fun x77 ex77 => ?_)
        replace hf := nm_i hf ex77
        obtain ⟨o78, ho78, hf⟩ := bd_i hf
        refine cl_i [0, 1] [] [wV cT g b t o38, wS cT g t u60] hP (va_D_adr hD rfl) hA hS (va_runS (As := [.ref (g b), .int v59, .int x77]) (rest := [.int v59, .ref (g t)]) ⟨hx, hb, hml, hown, hts⟩ (c_X4_settlement l D cT g b t fu o38 u60 v59 x77 o78 ho78 _) (va_cwS 3 hts gX4_passTrain_X4_settlement rfl rfl rfl (by decide +kernel) ⟨Nat.le_of_ble_eq_true rfl, Nat.le_of_ble_eq_true rfl⟩) ⟨PRE_blind, PRE_ok [0, 1] (by decide) hP (va_D_adr hD rfl) hA hS hK hN hZ⟩ rfl rfl hl.1 rfl (lv_room (Nat.le_of_ble_eq_true rfl)) dX4_passTrain_50 ⟨Nat.le_of_ble_eq_true rfl, Nat.le_of_ble_eq_true rfl⟩) rfl 2 rfl (by decide) (by decide) (fun H locs hP hS => ?_)
        obtain ⟨o79, ho79, hf⟩ := bd_i hf
        refine cl_v [1] [0] [wV cT g b t o38, wS cT g t o79] hP (va_D_adr hD rfl) hA hS (va_runV (As := [.int v59, .int o78]) (rest := []) ⟨hx, hb, hml, hown, hts⟩ (c_X1_settle l D cT g t fu u60 v59 o78 o79 ho79 _) (cwV 2 hts gX4_passTrain_X1_settle rfl rfl rfl (by decide +kernel) ⟨Nat.le_of_ble_eq_true rfl, Nat.le_of_ble_eq_true rfl⟩) ⟨PRE_blind, va_recv hK hP (ci := 1) (q0 := 4) rfl rfl, PRE_ok [1] (by decide) hP (va_D_adr hD rfl) hA hS hK hN hZ⟩ rfl rfl hl.1 rfl (lv_room (Nat.le_of_ble_eq_true rfl)) dX4_passTrain_53 ⟨Nat.le_of_ble_eq_true rfl, Nat.le_of_ble_eq_true rfl⟩) rfl 2 rfl (by decide) (by decide) (fun H locs hP hS => ?_)
        exact hK56_74 _ _ _ _ hf hP hS (lv_sub hl [0, 1, 2, 3, 4] rfl)
      · replace hf := it_f hf c76
        refine lv_aload_n hx hb dX4_passTrain_31 rfl (lv_at hl 3 rfl) ?_
        refine lv_iload hx hb dX4_passTrain_32 (lv_at hl 4 rfl) ?_
        refine lv_iconst (v := 1) hx hb dX4_passTrain_34 (by decide) ?_
        obtain ⟨o80, ho80, hf⟩ := bd_i hf
        refine cl_v [1] [0] [wV cT g b t o38, wS cT g t o80] hP (va_D_adr hD rfl) hA hS (va_runV (As := [.int v59, .int ((1 : Int32))]) (rest := []) ⟨hx, hb, hml, hown, hts⟩ (c_X1_foul l D cT g t fu u60 v59 ((1 : Int32)) o80 ho80 _) (cwV 2 hts gX4_passTrain_X1_foul rfl rfl rfl (by decide +kernel) ⟨Nat.le_of_ble_eq_true rfl, Nat.le_of_ble_eq_true rfl⟩) ⟨PRE_blind, va_recv hK hP (ci := 1) (q0 := 4) rfl rfl, PRE_ok [1] (by decide) hP (va_D_adr hD rfl) hA hS hK hN hZ⟩ rfl rfl hl.1 rfl (lv_room (Nat.le_of_ble_eq_true rfl)) dX4_passTrain_35 ⟨Nat.le_of_ble_eq_true rfl, Nat.le_of_ble_eq_true rfl⟩) rfl 2 rfl (by decide) (by decide) (fun H locs hP hS => ?_)
        refine lv_goto (tgt := 56) hx hb dX4_passTrain_38 (by decide) ?_
        exact hK56_74 _ _ _ _ hf hP hS (lv_sub hl [0, 1, 2, 3, 4] rfl)
  refine hL12 fu _ _ _ hz62 _ _ _ hP hS (lv_sub hl [2, 3, 4, 1, 0] rfl) (fun H locs ls hP hS hl => ?_)
  refine lv_aload_n hx hb dX4_passTrain_62 rfl (lv_at hl 3 rfl) ?_
  refine va_get (ci := 1) (v := .ref (g (t + 7))) (C := RX1) (T := TX1) (N := 9) hx hb hts iw_X4_passTrain_X1 hown hK hP 4 rfl rfl 8 (by decide) (hts (.fieldLink RX4 150 "BallastTrack$State" "accounts" "[I") (List.mem_of_getElem? (i := 4) rfl)) (fun _ h9 => h9) rfl dX4_passTrain_63 ?_
  refine lv_iconst (v := 2) hx hb dX4_passTrain_66 (by decide) ?_
  refine lv_dup2_11 hx hb dX4_passTrain_67 rfl rfl ?_
  refine va_iald hx hb hK hP 11 0 rfl rfl (by unfold vp_in; decide) dX4_passTrain_68 ?_
  refine lv_topi (fun x81 ex81 => ?_)
  replace hf := nm_i hf ex81
  refine lv_aload_n hx hb dX4_passTrain_69 rfl (lv_at hl 0 rfl) ?_
  refine va_get (ci := 2) (v := .int (V_od o38)) (C := RX2) (T := TX2) (N := 8) hx hb hts iw_X4_passTrain_X2 hown hK hP 0 rfl rfl 7 (by decide) (hts (.fieldLink RX4 143 "BallastTrack$Survey" "order" "I") (List.mem_of_getElem? (i := 5) rfl)) (fun _ h9 => h9) rfl dX4_passTrain_70 ?_
  refine lv_topi (fun x82 ex82 => ?_)
  replace hf := nm_i hf ex82
  obtain ⟨o83, ho83, hf⟩ := bd_i hf
  refine cl_i [] [0, 1] [wV cT g b t o38, wS cT g t z62] hP (va_D_adr hD rfl) hA hS (va_runS (As := [.int x82]) (rest := [.int x81, .int ((2 : Int32)), .ref (g (t + 7))]) ⟨hx, hb, hml, hown, hts⟩ (c_X4_minutesLostBy l D cT g  fu  x82 o83 ho83 _) (va_cwS 1 hts gX4_passTrain_X4_minutesLostBy rfl rfl rfl (by decide +kernel) ⟨Nat.le_of_ble_eq_true rfl, Nat.le_of_ble_eq_true rfl⟩) ⟨PRE_blind, PRE_ok [] (by decide) hP (va_D_adr hD rfl) hA hS hK hN hZ⟩ rfl rfl hl.1 rfl (lv_room (Nat.le_of_ble_eq_true rfl)) dX4_passTrain_73 ⟨Nat.le_of_ble_eq_true rfl, Nat.le_of_ble_eq_true rfl⟩) rfl 2 rfl (by decide) (by decide) (fun H locs hP hS => ?_)
  refine lv_iadd hx hb dX4_passTrain_76 ?_
  refine lv_topi (fun x84 ex84 => ?_)
  replace hf := nm_i hf ex84
  refine va_iast hx hb hK hP (va_D_adr hD rfl) hS 11 0 rfl rfl (by unfold vp_in; decide) dX4_passTrain_77 (fun H locs hP _ hS => ?_)
  obtain ⟨u85, eu85⟩ : ∃ z : TS, z = S_ac_ z62 (upd (S_ac z62) 2 x84) := ⟨_, rfl⟩
  replace hf := nm_i hf eu85
  have hP : va_P D vwCl (List.flatten [wV cT g b t o38, wS cT g t u85]) H := by rw [eu85]; exact hP
  refine lv_aload_n hx hb dX4_passTrain_78 rfl (lv_at hl 3 rfl) ?_
  refine va_get (ci := 1) (v := .ref (g (t + 7))) (C := RX1) (T := TX1) (N := 9) hx hb hts iw_X4_passTrain_X1 hown hK hP 4 rfl rfl 8 (by decide) (hts (.fieldLink RX4 150 "BallastTrack$State" "accounts" "[I") (List.mem_of_getElem? (i := 4) rfl)) (fun _ h9 => h9) rfl dX4_passTrain_79 ?_
  refine lv_iconst (v := 4) hx hb dX4_passTrain_82 (by decide) ?_
  refine lv_dup2_11 hx hb dX4_passTrain_83 rfl rfl ?_
  refine va_iald hx hb hK hP 11 0 rfl rfl (by unfold vp_in; decide) dX4_passTrain_84 ?_
  refine lv_topi (fun x86 ex86 => ?_)
  replace hf := nm_i hf ex86
  refine lv_iconst (v := 1) hx hb dX4_passTrain_85 (by decide) ?_
  refine lv_iadd hx hb dX4_passTrain_86 ?_
  refine lv_topi (fun x87 ex87 => ?_)
  replace hf := nm_i hf ex87
  refine va_iast hx hb hK hP (va_D_adr hD rfl) hS 11 0 rfl rfl (by unfold vp_in; decide) dX4_passTrain_87 (fun H locs hP _ hS => ?_)
  obtain ⟨u88, eu88⟩ : ∃ z : TS, z = S_ac_ u85 (upd (S_ac u85) 4 x87) := ⟨_, rfl⟩
  replace hf := nm_i hf eu88
  have hP : va_P D vwCl (List.flatten [wV cT g b t o38, wS cT g t u88]) H := by rw [eu88]; exact hP
  refine lv_aload_n hx hb dX4_passTrain_88 rfl (lv_at hl 3 rfl) ?_
  refine va_get (ci := 1) (v := .ref (g (t + 7))) (C := RX1) (T := TX1) (N := 9) hx hb hts iw_X4_passTrain_X1 hown hK hP 4 rfl rfl 8 (by decide) (hts (.fieldLink RX4 150 "BallastTrack$State" "accounts" "[I") (List.mem_of_getElem? (i := 4) rfl)) (fun _ h9 => h9) rfl dX4_passTrain_89 ?_
  refine lv_iconst (v := 5) hx hb dX4_passTrain_92 (by decide) ?_
  refine lv_dup2_11 hx hb dX4_passTrain_93 rfl rfl ?_
  refine va_iald hx hb hK hP 11 0 rfl rfl (by unfold vp_in; decide) dX4_passTrain_94 ?_
  refine lv_topi (fun x89 ex89 => ?_)
  replace hf := nm_i hf ex89
  refine lv_iload_n hx hb dX4_passTrain_95 rfl (lv_at hl 1 rfl) ?_
  refine lv_iload_n hx hb dX4_passTrain_96 rfl (lv_at hl 2 rfl) ?_
  refine lv_imul hx hb dX4_passTrain_97 ?_
  refine lv_topi (fun x90 ex90 => ?_)
  replace hf := nm_i hf ex90
  refine lv_iadd hx hb dX4_passTrain_98 ?_
  refine lv_topi (fun x91 ex91 => ?_)
  replace hf := nm_i hf ex91
  refine va_iast hx hb hK hP (va_D_adr hD rfl) hS 11 0 rfl rfl (by unfold vp_in; decide) dX4_passTrain_99 (fun H locs hP _ hS => ?_)
  obtain ⟨u92, eu92⟩ : ∃ z : TS, z = S_ac_ u88 (upd (S_ac u88) 5 x91) := ⟨_, rfl⟩
  replace hf := nm_i hf eu92
  have hP : va_P D vwCl (List.flatten [wV cT g b t o38, wS cT g t u92]) H := by rw [eu92]; exact hP
  refine lv_aload_n hx hb dX4_passTrain_100 rfl (lv_at hl 0 rfl) ?_
  obtain ⟨o93, ho93, hf⟩ := bd_i hf
  refine cl_v [0, 1] [] [wV cT g b t o93, wS cT g t u92] hP (va_D_adr hD rfl) hA hS (va_runV (As := []) (rest := []) ⟨hx, hb, hml, hown, hts⟩ (c_X2_look l D cT g b t fu o38 u92  o93 ho93 _) (cwV 0 hts gX4_passTrain_X2_look rfl rfl rfl (by decide +kernel) ⟨Nat.le_of_ble_eq_true rfl, Nat.le_of_ble_eq_true rfl⟩) ⟨PRE_blind, va_recv hK hP (ci := 2) (q0 := 0) rfl rfl, PRE_ok [0, 1] (by decide) hP (va_D_adr hD rfl) hA hS hK hN hZ⟩ rfl rfl hl.1 rfl (lv_room (Nat.le_of_ble_eq_true rfl)) dX4_passTrain_101 ⟨Nat.le_of_ble_eq_true rfl, Nat.le_of_ble_eq_true rfl⟩) rfl 2 rfl (by decide) (by decide) (fun H locs hP hS => ?_)
  obtain rfl := Option.some.inj hf
  subst hQ
  exact en_v hx hb hr hP hS hlocks dX4_passTrain_104
theorem iw_X4_trains_X2 : ∀ w ∈ u_ws RX2 TX2 8, w ∈ wsX4_trains := by decide +kernel
theorem iw_X4_trains_X4 : ∀ w ∈ u_ws RX4 TX4 8, w ∈ wsX4_trains := by decide +kernel
def lb_X4_trains_56 (fu : Nat) (p0 : Int32) (p1 : Int32) (p2 : Int32) (rec : Int32 → TS → TV → Option (Int32 × TS × TV)) (v51 : Int32) (u52 : TS) (u53 : TV) : Option (Int32 × TS × TV) :=
if p2 ≤ v51 then (
some (v51, u52, u53)
)
else (
nm (V_od u53) fun (x57 : Int32) =>
if (3 : Int32) ≤ x57 then (
some (v51, u52, u53)
)
else (
bd (f_X4_passTrain fu u53 u52 p0 p1) fun (o59 : TV × TS) =>
nm (v51 + (1 : Int32)) fun (x60 : Int32) =>
rec x60 o59.2 o59.1
)
)

def lf_X4_trains_56 (fu : Nat) (p0 : Int32) (p1 : Int32) (p2 : Int32) : Nat → Int32 → TS → TV → Option (Int32 × TS × TV) := lq_3 (lb_X4_trains_56 fu p0 p1 p2)
def f_X4_trains (fu : Nat) (u_now : TS) (u_survey : TV) (u_history : TH) (u_history_r0 : TS) (u_history_r1 : TS) (u_history_r2 : TS) (u_history_r3 : TS) (u_history_r4 : TS) (u_history_r5 : TS) (p0 : Int32) (p1 : Int32) (p2 : Int32) : Option (Int32 × TS × TV × TH × TS × TS × TS × TS × TS × TS) :=
bd (f_X4_isTrain fu  p0 p1) fun (o28 : Bool) =>
if bI o28 = 0 then (
some ((-100001 : Int32), u_now, u_survey, u_history, u_history_r0, u_history_r1, u_history_r2, u_history_r3, u_history_r4, u_history_r5)
)
else (
bd (f_X4_isWithin fu  p2 ((1 : Int32)) ((50 : Int32))) fun (o30 : Bool) =>
if ¬ bI o30 = 0 then (
bd (f_X2_look fu u_survey u_now ) fun (o32 : TV) =>
nm (V_od o32) fun (x33 : Int32) =>
if x33 < (3 : Int32) then (
bd (f_X0_save fu u_history u_history_r0 u_history_r1 u_history_r2 u_history_r3 u_history_r4 u_history_r5 u_now ) fun (o35 : TH × TS × TS × TS × TS × TS × TS) =>
bd (lf_X4_trains_56 fu p0 p1 p2 fu ((0 : Int32)) u_now o32) fun (z55 : Int32 × TS × TV) =>
some (z55.1, z55.2.1, z55.2.2, o35.1, o35.2.1, o35.2.2.1, o35.2.2.2.1, o35.2.2.2.2.1, o35.2.2.2.2.2.1, o35.2.2.2.2.2.2)
)
else (
some ((-100002 : Int32), u_now, o32, u_history, u_history_r0, u_history_r1, u_history_r2, u_history_r3, u_history_r4, u_history_r5)
)
)
else (
some ((-100001 : Int32), u_now, u_survey, u_history, u_history_r0, u_history_r1, u_history_r2, u_history_r3, u_history_r4, u_history_r5)
)
)

abbrev rm_X4_trains : Room := { frames := 5, cells := 0, slots := 0, locals := 110 }
set_option maxHeartbeats 4000000 in
set_option maxRecDepth 100000 in
theorem c_X4_trains (l : Launch) (D : va_G) (cT : Nat → ClassId) (g : Nat → Nat) (fu : Nat) (u_now : TS) (u_survey : TV) (u_history : TH) (u_history_r0 : TS) (u_history_r1 : TS) (u_history_r2 : TS) (u_history_r3 : TS) (u_history_r4 : TS) (u_history_r5 : TS) (p0 : Int32) (p1 : Int32) (p2 : Int32) (o : Int32 × TS × TV × TH × TS × TS × TS × TS × TS × TS) (hf : f_X4_trains fu u_now u_survey u_history u_history_r0 u_history_r1 u_history_r2 u_history_r3 u_history_r4 u_history_r5 p0 p1 p2 = some o) (sz : Nat) : Met l yX4_trains wsX4_trains rm_X4_trains (va_Pc [.ref (g 0), .int p0, .int p1, .int p2] (PRE D cT sz (List.flatten [wT g, wS cT g 1 u_now, wV cT g 9 1 u_survey, wH cT g 25 u_history, wS cT g 27 u_history_r0, wS cT g 35 u_history_r1, wS cT g 43 u_history_r2, wS cT g 51 u_history_r3, wS cT g 59 u_history_r4, wS cT g 67 u_history_r5]))) (QI D o.1 (List.flatten [wT g, wS cT g 1 o.2.1, wV cT g 9 1 o.2.2.1, wH cT g 25 o.2.2.2.1, wS cT g 27 o.2.2.2.2.1, wS cT g 35 o.2.2.2.2.2.1, wS cT g 43 o.2.2.2.2.2.2.1, wS cT g 51 o.2.2.2.2.2.2.2.1, wS cT g 59 o.2.2.2.2.2.2.2.2.1, wS cT g 67 o.2.2.2.2.2.2.2.2.2]) (va_A (List.flatten [wT g, wS cT g 1 u_now, wV cT g 9 1 u_survey, wH cT g 25 u_history, wS cT g 27 u_history_r0, wS cT g 35 u_history_r1, wS cT g 43 u_history_r2, wS cT g 51 u_history_r3, wS cT g 59 u_history_r4, wS cT g 67 u_history_r5]) sz)) 0 0 (va_A (List.flatten [wT g, wS cT g 1 u_now, wV cT g 9 1 u_survey, wH cT g 25 u_history, wS cT g 27 u_history_r0, wS cT g 35 u_history_r1, wS cT g 43 u_history_r2, wS cT g 51 u_history_r3, wS cT g 59 u_history_r4, wS cT g 67 u_history_r5]) sz) := by
  refine Met.ofW (cc := cX4_trains) (maxL := 5) (ret := (some .int)) (by decide) rfl ?_
  intro p e s m args below meth c s₁ B0 hml hv
  obtain ⟨hav, hsz, hP, hK, hD, hN, hZ⟩ := hv
  have hx := B0.exec
  have hb := B0.bytes
  have hr := B0.returns
  have hts := atoms_spec (ws := wsX4_trains) B0.pre
  have hown : s.vm.findClass RX4 = some m.cls := findClass_of_methodNamed B0.named
  have hlocks := B0.notSynchronized
  subst hsz
  have hD := hD.self (sz := s.heap.size)
  have hA : ∀ q : Nat, s.heap.size ≤ q → va_A (List.flatten [wT g, wS cT g 1 u_now, wV cT g 9 1 u_survey, wH cT g 25 u_history, wS cT g 27 u_history_r0, wS cT g 35 u_history_r1, wS cT g 43 u_history_r2, wS cT g 51 u_history_r3, wS cT g 59 u_history_r4, wS cT g 67 u_history_r5]) s.heap.size q := fun q h => Or.inr h
  generalize va_A (List.flatten [wT g, wS cT g 1 u_now, wV cT g 9 1 u_survey, wH cT g 25 u_history, wS cT g 27 u_history_r0, wS cT g 35 u_history_r1, wS cT g 43 u_history_r2, wS cT g 51 u_history_r3, wS cT g 59 u_history_r4, wS cT g 67 u_history_r5]) s.heap.size = A at hD hZ hA ⊢
  have hS : va_S A s.heap s.heap [] := va_S.rf
  have hl := lv_entry ([.ref (g 0), .int p0, .int p1, .int p2]) (n := 5) (Nat.le_of_ble_eq_true rfl)
  rw [hav]
  rw [lg_entry_eq]
  generalize (lg_sl ([.ref (g 0), .int p0, .int p1, .int p2]) ++ List.replicate (5 - (lg_sl ([.ref (g 0), .int p0, .int p1, .int p2])).length) Slot.unset).toArray = ls at hl ⊢
  have hl : lv_has ls 5 [(0, .ref (g 0)), (1, .int p0), (2, .int p1), (3, .int p2)] := hl
  rw [← hav]
  generalize hQ : MQ below _ _ _ _ _ _ = Q
  show W p l e rm_X4_trains s m args below meth c s.heap [] 0 0 Q (F0 m 0 ls [])
  unfold f_X4_trains at hf
  refine lv_iload_n hx hb dX4_trains_0 rfl (lv_at hl 1 rfl) ?_
  refine lv_iload_n hx hb dX4_trains_1 rfl (lv_at hl 2 rfl) ?_
  obtain ⟨o28, ho28, hf⟩ := bd_i hf
  refine cl_i [] [0, 1, 2, 3, 4, 5, 6, 7, 8, 9] [wT g, wS cT g 1 u_now, wV cT g 9 1 u_survey, wH cT g 25 u_history, wS cT g 27 u_history_r0, wS cT g 35 u_history_r1, wS cT g 43 u_history_r2, wS cT g 51 u_history_r3, wS cT g 59 u_history_r4, wS cT g 67 u_history_r5] hP (va_D_adr hD rfl) hA hS (va_runS (As := [.int p0, .int p1]) (rest := []) ⟨hx, hb, hml, hown, hts⟩ (c_X4_isTrain l D cT g  fu  p0 p1 o28 ho28 _) (va_cwS 2 hts gX4_trains_X4_isTrain rfl rfl rfl (by decide +kernel) ⟨Nat.le_of_ble_eq_true rfl, Nat.le_of_ble_eq_true rfl⟩) ⟨PRE_blind, PRE_ok [] (by decide) hP (va_D_adr hD rfl) hA hS hK hN hZ⟩ rfl rfl hl.1 rfl (lv_room (Nat.le_of_ble_eq_true rfl)) dX4_trains_2 ⟨Nat.le_of_ble_eq_true rfl, Nat.le_of_ble_eq_true rfl⟩) rfl 10 rfl (by decide) (by decide) (fun H locs hP hS => ?_)
  refine lv_if_eq (tgt := 18) hx hb dX4_trains_5 (by decide) (fun c29 => ?_) (fun c29 => ?_)
  · replace hf := it_t hf c29
    refine lv_ldc (v := -100001) hx hb hown (hts (.constant RX4 57 (-100001)) (List.mem_of_getElem? (i := 1) rfl)) dX4_trains_18 ?_
    obtain rfl := Option.some.inj hf
    subst hQ
    exact en_i hx hb hr hP hS hlocks dX4_trains_20
  · replace hf := it_f hf c29
    refine lv_iload_n hx hb dX4_trains_8 rfl (lv_at hl 3 rfl) ?_
    refine lv_iconst (v := 1) hx hb dX4_trains_9 (by decide) ?_
    refine lv_bipush (v := 50) hx hb dX4_trains_10 (by decide) ?_
    obtain ⟨o30, ho30, hf⟩ := bd_i hf
    refine cl_i [] [0, 1, 2, 3, 4, 5, 6, 7, 8, 9] [wT g, wS cT g 1 u_now, wV cT g 9 1 u_survey, wH cT g 25 u_history, wS cT g 27 u_history_r0, wS cT g 35 u_history_r1, wS cT g 43 u_history_r2, wS cT g 51 u_history_r3, wS cT g 59 u_history_r4, wS cT g 67 u_history_r5] hP (va_D_adr hD rfl) hA hS (va_runS (As := [.int p2, .int ((1 : Int32)), .int ((50 : Int32))]) (rest := []) ⟨hx, hb, hml, hown, hts⟩ (c_X4_isWithin l D cT g  fu  p2 ((1 : Int32)) ((50 : Int32)) o30 ho30 _) (va_cwS 3 hts gX4_trains_X4_isWithin rfl rfl rfl (by decide +kernel) ⟨Nat.le_of_ble_eq_true rfl, Nat.le_of_ble_eq_true rfl⟩) ⟨PRE_blind, PRE_ok [] (by decide) hP (va_D_adr hD rfl) hA hS hK hN hZ⟩ rfl rfl hl.1 rfl (lv_room (Nat.le_of_ble_eq_true rfl)) dX4_trains_12 ⟨Nat.le_of_ble_eq_true rfl, Nat.le_of_ble_eq_true rfl⟩) rfl 10 rfl (by decide) (by decide) (fun H locs hP hS => ?_)
    refine lv_if_ne (tgt := 21) hx hb dX4_trains_15 (by decide) (fun c31 => ?_) (fun c31 => ?_)
    · replace hf := it_t hf c31
      refine lv_aload_n hx hb dX4_trains_21 rfl (lv_at hl 0 rfl) ?_
      refine va_get (ci := 4) (v := .ref (g 9)) (C := RX4) (T := TX4) (N := 8) hx hb hts iw_X4_trains_X4 hown hK hP 0 rfl rfl 1 (by decide) (hts (.fieldLink RX4 21 "BallastTrack" "survey" "LBallastTrack$Survey;") (List.mem_of_getElem? (i := 2) rfl)) (fun _ h9 => h9) rfl dX4_trains_22 ?_
      obtain ⟨o32, ho32, hf⟩ := bd_i hf
      refine cl_v [2, 1] [0, 3, 4, 5, 6, 7, 8, 9] [wT g, wS cT g 1 u_now, wV cT g 9 1 o32, wH cT g 25 u_history, wS cT g 27 u_history_r0, wS cT g 35 u_history_r1, wS cT g 43 u_history_r2, wS cT g 51 u_history_r3, wS cT g 59 u_history_r4, wS cT g 67 u_history_r5] hP (va_D_adr hD rfl) hA hS (va_runV (As := []) (rest := []) ⟨hx, hb, hml, hown, hts⟩ (c_X2_look l D cT g 9 1 fu u_survey u_now  o32 ho32 _) (cwV 0 hts gX4_trains_X2_look rfl rfl rfl (by decide +kernel) ⟨Nat.le_of_ble_eq_true rfl, Nat.le_of_ble_eq_true rfl⟩) ⟨PRE_blind, va_recv hK hP (ci := 2) (q0 := 9) rfl rfl, PRE_ok [2, 1] (by decide) hP (va_D_adr hD rfl) hA hS hK hN hZ⟩ rfl rfl hl.1 rfl (lv_room (Nat.le_of_ble_eq_true rfl)) dX4_trains_25 ⟨Nat.le_of_ble_eq_true rfl, Nat.le_of_ble_eq_true rfl⟩) rfl 10 rfl (by decide) (by decide) (fun H locs hP hS => ?_)
      refine lv_aload_n hx hb dX4_trains_28 rfl (lv_at hl 0 rfl) ?_
      refine va_get (ci := 4) (v := .ref (g 9)) (C := RX4) (T := TX4) (N := 8) hx hb hts iw_X4_trains_X4 hown hK hP 0 rfl rfl 1 (by decide) (hts (.fieldLink RX4 21 "BallastTrack" "survey" "LBallastTrack$Survey;") (List.mem_of_getElem? (i := 2) rfl)) (fun _ h9 => h9) rfl dX4_trains_29 ?_
      refine va_get (ci := 2) (v := .int (V_od o32)) (C := RX2) (T := TX2) (N := 8) hx hb hts iw_X4_trains_X2 hown hK hP 9 rfl rfl 7 (by decide) (hts (.fieldLink RX4 143 "BallastTrack$Survey" "order" "I") (List.mem_of_getElem? (i := 3) rfl)) (fun _ h9 => h9) rfl dX4_trains_32 ?_
      refine lv_topi (fun x33 ex33 => ?_)
      replace hf := nm_i hf ex33
      refine lv_iconst (v := 3) hx hb dX4_trains_35 (by decide) ?_
      refine lv_icmp_lt (tgt := 42) hx hb dX4_trains_36 (by decide) (fun c34 => ?_) (fun c34 => ?_)
      · replace hf := it_t hf c34
        refine lv_aload_n hx hb dX4_trains_42 rfl (lv_at hl 0 rfl) ?_
        refine va_get (ci := 4) (v := .ref (g 25)) (C := RX4) (T := TX4) (N := 8) hx hb hts iw_X4_trains_X4 hown hK hP 0 rfl rfl 4 (by decide) (hts (.fieldLink RX4 34 "BallastTrack" "history" "LBallastTrack$History;") (List.mem_of_getElem? (i := 5) rfl)) (fun _ h9 => h9) rfl dX4_trains_43 ?_
        refine lv_aload_n hx hb dX4_trains_46 rfl (lv_at hl 0 rfl) ?_
        refine va_get (ci := 4) (v := .ref (g 1)) (C := RX4) (T := TX4) (N := 8) hx hb hts iw_X4_trains_X4 hown hK hP 0 rfl rfl 0 (by decide) (hts (.fieldLink RX4 10 "BallastTrack" "now" "LBallastTrack$State;") (List.mem_of_getElem? (i := 6) rfl)) (fun _ h9 => h9) rfl dX4_trains_47 ?_
        obtain ⟨o35, ho35, hf⟩ := bd_i hf
        refine cl_v [3, 4, 5, 6, 7, 8, 9, 1] [0, 2] [wT g, wS cT g 1 u_now, wV cT g 9 1 o32, wH cT g 25 o35.1, wS cT g 27 o35.2.1, wS cT g 35 o35.2.2.1, wS cT g 43 o35.2.2.2.1, wS cT g 51 o35.2.2.2.2.1, wS cT g 59 o35.2.2.2.2.2.1, wS cT g 67 o35.2.2.2.2.2.2] hP (va_D_adr hD rfl) hA hS (va_runV (As := [.ref (g 1)]) (rest := []) ⟨hx, hb, hml, hown, hts⟩ (c_X0_save l D cT g 25 1 fu u_history u_history_r0 u_history_r1 u_history_r2 u_history_r3 u_history_r4 u_history_r5 u_now  o35 ho35 _) (cwV 1 hts gX4_trains_X0_save rfl rfl rfl (by decide +kernel) ⟨Nat.le_of_ble_eq_true rfl, Nat.le_of_ble_eq_true rfl⟩) ⟨PRE_blind, va_recv hK hP (ci := 0) (q0 := 13) rfl rfl, PRE_ok [3, 4, 5, 6, 7, 8, 9, 1] (by decide) hP (va_D_adr hD rfl) hA hS hK hN hZ⟩ rfl rfl hl.1 rfl (lv_room (Nat.le_of_ble_eq_true rfl)) dX4_trains_50 ⟨Nat.le_of_ble_eq_true rfl, Nat.le_of_ble_eq_true rfl⟩) rfl 10 rfl (by decide) (by decide) (fun H locs hP hS => ?_)
        refine lv_iconst (v := 0) hx hb dX4_trains_53 (by decide) ?_
        refine lv_istore (lv' := [(4, .int ((0 : Int32))), (0, .ref (g 0)), (1, .int p0), (2, .int p1), (3, .int p2)]) hx hb dX4_trains_54 hl (by decide) rfl (fun ls hl => ?_)
        obtain ⟨z55, hz55, hf⟩ := bd_i hf
        have hL56 : ∀ (n : Nat) (v51 : Int32) (u52 : TS) (u53 : TV) (z54 : Int32 × TS × TV), lf_X4_trains_56 fu p0 p1 p2 n v51 u52 u53 = some z54 → ∀ (H : Heap) (locs : List Loc) (ls : Array Slot), va_P D vwCl (List.flatten [wT g, wS cT g 1 u52, wV cT g 9 1 u53, wH cT g 25 o35.1, wS cT g 27 o35.2.1, wS cT g 35 o35.2.2.1, wS cT g 43 o35.2.2.2.1, wS cT g 51 o35.2.2.2.2.1, wS cT g 59 o35.2.2.2.2.2.1, wS cT g 67 o35.2.2.2.2.2.2]) H → va_S A s.heap H locs → lv_has ls 5 [(0, .ref (g 0)), (1, .int p0), (2, .int p1), (3, .int p2), (4, .int v51)] → (∀ (H : Heap) (locs : List Loc) (ls : Array Slot), va_P D vwCl (List.flatten [wT g, wS cT g 1 z54.2.1, wV cT g 9 1 z54.2.2, wH cT g 25 o35.1, wS cT g 27 o35.2.1, wS cT g 35 o35.2.2.1, wS cT g 43 o35.2.2.2.1, wS cT g 51 o35.2.2.2.2.1, wS cT g 59 o35.2.2.2.2.2.1, wS cT g 67 o35.2.2.2.2.2.2]) H → va_S A s.heap H locs → lv_has ls 5 [(4, .int z54.1)] → W p l e rm_X4_trains s m args below meth c H locs 0 0 Q (F0 m 88 ls [])) → W p l e rm_X4_trains s m args below meth c H locs 0 0 Q (F0 m 56 ls []) := by
          refine lq_3_ind (F := lb_X4_trains_56 fu p0 p1 p2) (fun rec ih v51 u52 u53 z54 hf H locs ls hP hS hl kx => ?_)
          unfold lb_X4_trains_56 at hf
          refine lv_iload hx hb dX4_trains_56 (lv_at hl 4 rfl) ?_
          refine lv_iload_n hx hb dX4_trains_58 rfl (lv_at hl 3 rfl) ?_
          refine lv_icmp_ge (tgt := 88) hx hb dX4_trains_59 (by decide) (fun c56 => ?_) (fun c56 => ?_)
          · replace hf := it_t hf c56
            obtain rfl := Option.some.inj hf
            exact kx _ _ _ hP hS (lv_sub hl [4] rfl)
          · replace hf := it_f hf c56
            refine lv_aload_n hx hb dX4_trains_62 rfl (lv_at hl 0 rfl) ?_
            refine va_get (ci := 4) (v := .ref (g 9)) (C := RX4) (T := TX4) (N := 8) hx hb hts iw_X4_trains_X4 hown hK hP 0 rfl rfl 1 (by decide) (hts (.fieldLink RX4 21 "BallastTrack" "survey" "LBallastTrack$Survey;") (List.mem_of_getElem? (i := 2) rfl)) (fun _ h9 => h9) rfl dX4_trains_63 ?_
            refine va_get (ci := 2) (v := .int (V_od u53)) (C := RX2) (T := TX2) (N := 8) hx hb hts iw_X4_trains_X2 hown hK hP 9 rfl rfl 7 (by decide) (hts (.fieldLink RX4 143 "BallastTrack$Survey" "order" "I") (List.mem_of_getElem? (i := 3) rfl)) (fun _ h9 => h9) rfl dX4_trains_66 ?_
            refine lv_topi (fun x57 ex57 => ?_)
            replace hf := nm_i hf ex57
            refine lv_iconst (v := 3) hx hb dX4_trains_69 (by decide) ?_
            refine lv_icmp_ge (tgt := 88) hx hb dX4_trains_70 (by decide) (fun c58 => ?_) (fun c58 => ?_)
            · replace hf := it_t hf c58
              obtain rfl := Option.some.inj hf
              exact kx _ _ _ hP hS (lv_sub hl [4] rfl)
            · replace hf := it_f hf c58
              refine lv_aload_n hx hb dX4_trains_73 rfl (lv_at hl 0 rfl) ?_
              refine va_get (ci := 4) (v := .ref (g 9)) (C := RX4) (T := TX4) (N := 8) hx hb hts iw_X4_trains_X4 hown hK hP 0 rfl rfl 1 (by decide) (hts (.fieldLink RX4 21 "BallastTrack" "survey" "LBallastTrack$Survey;") (List.mem_of_getElem? (i := 2) rfl)) (fun _ h9 => h9) rfl dX4_trains_74 ?_
              refine lv_iload_n hx hb dX4_trains_77 rfl (lv_at hl 1 rfl) ?_
              refine lv_iload_n hx hb dX4_trains_78 rfl (lv_at hl 2 rfl) ?_
              obtain ⟨o59, ho59, hf⟩ := bd_i hf
              refine cl_v [2, 1] [0, 3, 4, 5, 6, 7, 8, 9] [wT g, wS cT g 1 o59.2, wV cT g 9 1 o59.1, wH cT g 25 o35.1, wS cT g 27 o35.2.1, wS cT g 35 o35.2.2.1, wS cT g 43 o35.2.2.2.1, wS cT g 51 o35.2.2.2.2.1, wS cT g 59 o35.2.2.2.2.2.1, wS cT g 67 o35.2.2.2.2.2.2] hP (va_D_adr hD rfl) hA hS (va_runS (As := [.ref (g 9), .int p0, .int p1]) (rest := []) ⟨hx, hb, hml, hown, hts⟩ (c_X4_passTrain l D cT g 9 1 fu u53 u52 p0 p1 o59 ho59 _) (va_cwS 3 hts gX4_trains_X4_passTrain rfl rfl rfl (by decide +kernel) ⟨Nat.le_of_ble_eq_true rfl, Nat.le_of_ble_eq_true rfl⟩) ⟨PRE_blind, PRE_ok [2, 1] (by decide) hP (va_D_adr hD rfl) hA hS hK hN hZ⟩ rfl rfl hl.1 rfl (lv_room (Nat.le_of_ble_eq_true rfl)) dX4_trains_79 ⟨Nat.le_of_ble_eq_true rfl, Nat.le_of_ble_eq_true rfl⟩) rfl 10 rfl (by decide) (by decide) (fun H locs hP hS => ?_)
              obtain ⟨x60, ex60⟩ : ∃ z : Int32, z = v51 + (1 : Int32) := ⟨_, rfl⟩
              replace hf := nm_i hf ex60
              refine lv_iinc (v := x60) (lv' := [(4, .int x60), (0, .ref (g 0)), (1, .int p0), (2, .int p1), (3, .int p2)]) hx hb dX4_trains_82 hl (k := 4) rfl (by rw [ex60]; rfl) (by decide) rfl (fun ls hl => ?_)
              refine lv_goto (tgt := 56) hx hb dX4_trains_85 (by decide) ?_
              exact ih _ _ _ _ hf _ _ _ hP hS (lv_sub hl [1, 2, 3, 4, 0] rfl) kx
        refine hL56 fu _ _ _ _ hz55 _ _ _ hP hS (lv_sub hl [1, 2, 3, 4, 0] rfl) (fun H locs ls hP hS hl => ?_)
        refine lv_iload hx hb dX4_trains_88 (lv_at hl 0 rfl) ?_
        obtain rfl := Option.some.inj hf
        subst hQ
        exact en_i hx hb hr hP hS hlocks dX4_trains_90
      · replace hf := it_f hf c34
        refine lv_ldc (v := -100002) hx hb hown (hts (.constant RX4 133 (-100002)) (List.mem_of_getElem? (i := 4) rfl)) dX4_trains_39 ?_
        obtain rfl := Option.some.inj hf
        subst hQ
        exact en_i hx hb hr hP hS hlocks dX4_trains_41
    · replace hf := it_f hf (not_not_intro c31)
      refine lv_ldc (v := -100001) hx hb hown (hts (.constant RX4 57 (-100001)) (List.mem_of_getElem? (i := 1) rfl)) dX4_trains_18 ?_
      obtain rfl := Option.some.inj hf
      subst hQ
      exact en_i hx hb hr hP hS hlocks dX4_trains_20
