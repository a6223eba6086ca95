theorem iw_X4_keep_X1 : ∀ w ∈ u_ws RX1 TX1 9, w ∈ wsX4_keep := by decide +kernel
theorem iw_X4_keep_X4 : ∀ w ∈ u_ws RX4 TX4 8, w ∈ wsX4_keep := by decide +kernel
def f_X4_keep (fu : Nat) (u_now : TS) (u_images_r0 : TS) (u_images_r1 : TS) (u_kept : (Nat → Int32)) (p0 : Int32) : Option (Int32 × TS × TS × (Nat → Int32)) :=
bd (f_X4_isWithin fu  p0 ((0 : Int32)) ((1 : Int32))) fun (o14 : Bool) =>
if ¬ bI o14 = 0 then (
ix p0 2 <|
if p0 = (0 : Int32) then (
bd (f_X1_copyFrom fu u_images_r0 u_now ) fun (o18 : TS) =>
ix p0 2 <|
nm (upd (u_kept) p0.toNatClampNeg (vp_nar .boolean ((1 : Int32)))) fun (u20 : (Nat → Int32)) =>
nm (S_ac u_now 4) fun (x21 : Int32) =>
some (x21, o18, u_images_r1, u20)
)
else if p0 = (1 : Int32) then (
bd (f_X1_copyFrom fu u_images_r1 u_now ) fun (o23 : TS) =>
ix p0 2 <|
nm (upd (u_kept) p0.toNatClampNeg (vp_nar .boolean ((1 : Int32)))) fun (u25 : (Nat → Int32)) =>
nm (S_ac u_now 4) fun (x26 : Int32) =>
some (x26, u_images_r0, o23, u25)
)
else none
)
else (
some ((-100001 : Int32), u_images_r0, u_images_r1, u_kept)
)

abbrev rm_X4_keep : Room := { frames := 2, cells := 0, slots := 0, locals := 81 }
set_option maxHeartbeats 4000000 in
set_option maxRecDepth 100000 in
theorem c_X4_keep (l : Launch) (D : va_G) (cT : Nat → ClassId) (g : Nat → Nat) (fu : Nat) (u_now : TS) (u_images_r0 : TS) (u_images_r1 : TS) (u_kept : (Nat → Int32)) (p0 : Int32) (o : Int32 × TS × TS × (Nat → Int32)) (hf : f_X4_keep fu u_now u_images_r0 u_images_r1 u_kept p0 = some o) (sz : Nat) : Met l yX4_keep wsX4_keep rm_X4_keep (va_Pc [.ref (g 0), .int p0] (PRE D cT sz (List.flatten [wT g, wS cT g 1 u_now, wI cT g 77, wS cT g 78 u_images_r0, wS cT g 86 u_images_r1, wK cT g 94 u_kept]))) (QI D o.1 (List.flatten [wT g, wS cT g 1 u_now, wI cT g 77, wS cT g 78 o.2.1, wS cT g 86 o.2.2.1, wK cT g 94 o.2.2.2]) (va_A (List.flatten [wT g, wS cT g 1 u_now, wI cT g 77, wS cT g 78 u_images_r0, wS cT g 86 u_images_r1, wK cT g 94 u_kept]) sz)) 0 0 (va_A (List.flatten [wT g, wS cT g 1 u_now, wI cT g 77, wS cT g 78 u_images_r0, wS cT g 86 u_images_r1, wK cT g 94 u_kept]) sz) := by
  refine Met.ofW (cc := cX4_keep) (maxL := 2) (ret := (some .int)) (by decide) rfl ?_
  intro p e s m args below meth c s₁ B0 hml hv
  obtain ⟨hav, hsz, hP, hK, hD, hN, hZ⟩ := hv
  have hx := B0.exec
  have hb := B0.bytes
  have hr := B0.returns
  have hts := atoms_spec (ws := wsX4_keep) B0.pre
  have hown : s.vm.findClass RX4 = some m.cls := findClass_of_methodNamed B0.named
  have hlocks := B0.notSynchronized
  subst hsz
  have hD := hD.self (sz := s.heap.size)
  have hA : ∀ q : Nat, s.heap.size ≤ q → va_A (List.flatten [wT g, wS cT g 1 u_now, wI cT g 77, wS cT g 78 u_images_r0, wS cT g 86 u_images_r1, wK cT g 94 u_kept]) s.heap.size q := fun q h => Or.inr h
  generalize va_A (List.flatten [wT g, wS cT g 1 u_now, wI cT g 77, wS cT g 78 u_images_r0, wS cT g 86 u_images_r1, wK cT g 94 u_kept]) s.heap.size = A at hD hZ hA ⊢
  have hS : va_S A s.heap s.heap [] := va_S.rf
  have hl := lv_entry ([.ref (g 0), .int p0]) (n := 2) (Nat.le_of_ble_eq_true rfl)
  rw [hav]
  rw [lg_entry_eq]
  generalize (lg_sl ([.ref (g 0), .int p0]) ++ List.replicate (2 - (lg_sl ([.ref (g 0), .int p0])).length) Slot.unset).toArray = ls at hl ⊢
  have hl : lv_has ls 2 [(0, .ref (g 0)), (1, .int p0)] := hl
  rw [← hav]
  generalize hQ : MQ below _ _ _ _ _ _ = Q
  show W p l e rm_X4_keep s m args below meth c s.heap [] 0 0 Q (F0 m 0 ls [])
  unfold f_X4_keep at hf
  refine lv_iload_n hx hb dX4_keep_0 rfl (lv_at hl 1 rfl) ?_
  refine lv_iconst (v := 0) hx hb dX4_keep_1 (by decide) ?_
  refine lv_iconst (v := 1) hx hb dX4_keep_2 (by decide) ?_
  obtain ⟨o14, ho14, hf⟩ := bd_i hf
  refine cl_i [] [0, 1, 2, 3, 4, 5] [wT g, wS cT g 1 u_now, wI cT g 77, wS cT g 78 u_images_r0, wS cT g 86 u_images_r1, wK cT g 94 u_kept] hP (va_D_adr hD rfl) hA hS (va_runS (As := [.int p0, .int ((0 : Int32)), .int ((1 : Int32))]) (rest := []) ⟨hx, hb, hml, hown, hts⟩ (c_X4_isWithin l D cT g  fu  p0 ((0 : Int32)) ((1 : Int32)) o14 ho14 _) (va_cwS 3 hts gX4_keep_X4_isWithin rfl rfl rfl (by decide +kernel) ⟨Nat.le_of_ble_eq_true rfl, Nat.le_of_ble_eq_true rfl⟩) ⟨PRE_blind, PRE_ok [] (by decide) hP (va_D_adr hD rfl) hA hS hK hN hZ⟩ rfl rfl hl.1 rfl (lv_room (Nat.le_of_ble_eq_true rfl)) dX4_keep_3 ⟨Nat.le_of_ble_eq_true rfl, Nat.le_of_ble_eq_true rfl⟩) rfl 6 rfl (by decide) (by decide) (fun H locs hP hS => ?_)
  refine lv_if_ne (tgt := 12) hx hb dX4_keep_6 (by decide) (fun c15 => ?_) (fun c15 => ?_)
  · replace hf := it_t hf c15
    refine lv_aload_n hx hb dX4_keep_12 rfl (lv_at hl 0 rfl) ?_
    refine va_get (ci := 4) (v := .ref (g 77)) (C := RX4) (T := TX4) (N := 8) hx hb hts iw_X4_keep_X4 hown hK hP 0 rfl rfl 6 (by decide) (hts (.fieldLink RX4 45 "BallastTrack" "images" "[LBallastTrack$State;") (List.mem_of_getElem? (i := 2) rfl)) (fun _ h9 => h9) rfl dX4_keep_13 ?_
    refine lv_iload_n hx hb dX4_keep_16 rfl (lv_at hl 1 rfl) ?_
    obtain ⟨hi16, hf⟩ := ix_i hf
    by_cases c17 : p0 = (0 : Int32)
    · replace hf := it_t hf c17
      refine va_aldq hx hb hK hP 9 3 rfl rfl hi16 dX4_keep_17 ?_
      refine W.eq (g2 := F0 m 18 ls [.ref (g 78)]) (by rw [c17]; rfl) ?_
      refine lv_aload_n hx hb dX4_keep_18 rfl (lv_at hl 0 rfl) ?_
      refine va_get (ci := 4) (v := .ref (g 1)) (C := RX4) (T := TX4) (N := 8) hx hb hts iw_X4_keep_X4 hown hK hP 0 rfl rfl 0 (by decide) (hts (.fieldLink RX4 10 "BallastTrack" "now" "LBallastTrack$State;") (List.mem_of_getElem? (i := 3) rfl)) (fun _ h9 => h9) rfl dX4_keep_19 ?_
      obtain ⟨o18, ho18, hf⟩ := bd_i hf
      refine cl_v [3, 1] [0, 2, 4, 5] [wT g, wS cT g 1 u_now, wI cT g 77, wS cT g 78 o18, wS cT g 86 u_images_r1, wK cT g 94 u_kept] hP (va_D_adr hD rfl) hA hS (va_runV (As := [.ref (g 1)]) (rest := []) ⟨hx, hb, hml, hown, hts⟩ (c_X1_copyFrom l D cT g 78 1 fu u_images_r0 u_now  o18 ho18 _) (cwV 1 hts gX4_keep_X1_copyFrom rfl rfl rfl (by decide +kernel) ⟨Nat.le_of_ble_eq_true rfl, Nat.le_of_ble_eq_true rfl⟩) ⟨PRE_blind, va_recv hK hP (ci := 1) (q0 := 10) rfl rfl, PRE_ok [3, 1] (by decide) hP (va_D_adr hD rfl) hA hS hK hN hZ⟩ rfl rfl hl.1 rfl (lv_room (Nat.le_of_ble_eq_true rfl)) dX4_keep_22 ⟨Nat.le_of_ble_eq_true rfl, Nat.le_of_ble_eq_true rfl⟩) rfl 6 rfl (by decide) (by decide) (fun H locs hP hS => ?_)
      refine lv_aload_n hx hb dX4_keep_25 rfl (lv_at hl 0 rfl) ?_
      refine va_get (ci := 4) (v := .ref (g 94)) (C := RX4) (T := TX4) (N := 8) hx hb hts iw_X4_keep_X4 hown hK hP 0 rfl rfl 7 (by decide) (hts (.fieldLink RX4 49 "BallastTrack" "kept" "[Z") (List.mem_of_getElem? (i := 4) rfl)) (fun _ h9 => h9) rfl dX4_keep_26 ?_
      refine lv_iload_n hx hb dX4_keep_29 rfl (lv_at hl 1 rfl) ?_
      refine lv_iconst (v := 1) hx hb dX4_keep_30 (by decide) ?_
      obtain ⟨hi19, hf⟩ := ix_i hf
      refine va_zast hx hb hK hP (va_D_adr hD rfl) hS 26 1 rfl rfl hi19 dX4_keep_31 (fun H locs hP _ hS => ?_)
      obtain ⟨u20, eu20⟩ : ∃ z : (Nat → Int32), z = upd (u_kept) p0.toNatClampNeg (vp_nar .boolean ((1 : Int32))) := ⟨_, rfl⟩
      replace hf := nm_i hf eu20
      have hP : va_P D vwCl (List.flatten [wT g, wS cT g 1 u_now, wI cT g 77, wS cT g 78 o18, wS cT g 86 u_images_r1, wK cT g 94 u20]) H := by rw [eu20]; exact hP
      refine lv_aload_n hx hb dX4_keep_32 rfl (lv_at hl 0 rfl) ?_
      refine va_get (ci := 4) (v := .ref (g 1)) (C := RX4) (T := TX4) (N := 8) hx hb hts iw_X4_keep_X4 hown hK hP 0 rfl rfl 0 (by decide) (hts (.fieldLink RX4 10 "BallastTrack" "now" "LBallastTrack$State;") (List.mem_of_getElem? (i := 3) rfl)) (fun _ h9 => h9) rfl dX4_keep_33 ?_
      refine va_get (ci := 1) (v := .ref (g (1 + 7))) (C := RX1) (T := TX1) (N := 9) hx hb hts iw_X4_keep_X1 hown hK hP 1 rfl rfl 8 (by decide) (hts (.fieldLink RX4 150 "BallastTrack$State" "accounts" "[I") (List.mem_of_getElem? (i := 5) rfl)) (fun _ h9 => h9) rfl dX4_keep_36 ?_
      refine lv_iconst (v := 4) hx hb dX4_keep_39 (by decide) ?_
      refine va_iald hx hb hK hP 8 0 rfl rfl (by unfold vp_in; decide) dX4_keep_40 ?_
      refine lv_topi (fun x21 ex21 => ?_)
      replace hf := nm_i hf ex21
      obtain rfl := Option.some.inj hf
      subst hQ
      exact en_i hx hb hr hP hS hlocks dX4_keep_41
    replace hf := it_f hf c17
    by_cases c22 : p0 = (1 : Int32)
    · replace hf := it_t hf c22
      refine va_aldq hx hb hK hP 9 3 rfl rfl hi16 dX4_keep_17 ?_
      refine W.eq (g2 := F0 m 18 ls [.ref (g 86)]) (by rw [c22]; rfl) ?_
      refine lv_aload_n hx hb dX4_keep_18 rfl (lv_at hl 0 rfl) ?_
      refine va_get (ci := 4) (v := .ref (g 1)) (C := RX4) (T := TX4) (N := 8) hx hb hts iw_X4_keep_X4 hown hK hP 0 rfl rfl 0 (by decide) (hts (.fieldLink RX4 10 "BallastTrack" "now" "LBallastTrack$State;") (List.mem_of_getElem? (i := 3) rfl)) (fun _ h9 => h9) rfl dX4_keep_19 ?_
      obtain ⟨o23, ho23, hf⟩ := bd_i hf
      refine cl_v [4, 1] [0, 2, 3, 5] [wT g, wS cT g 1 u_now, wI cT g 77, wS cT g 78 u_images_r0, wS cT g 86 o23, wK cT g 94 u_kept] hP (va_D_adr hD rfl) hA hS (va_runV (As := [.ref (g 1)]) (rest := []) ⟨hx, hb, hml, hown, hts⟩ (c_X1_copyFrom l D cT g 86 1 fu u_images_r1 u_now  o23 ho23 _) (cwV 1 hts gX4_keep_X1_copyFrom rfl rfl rfl (by decide +kernel) ⟨Nat.le_of_ble_eq_true rfl, Nat.le_of_ble_eq_true rfl⟩) ⟨PRE_blind, va_recv hK hP (ci := 1) (q0 := 18) rfl rfl, PRE_ok [4, 1] (by decide) hP (va_D_adr hD rfl) hA hS hK hN hZ⟩ rfl rfl hl.1 rfl (lv_room (Nat.le_of_ble_eq_true rfl)) dX4_keep_22 ⟨Nat.le_of_ble_eq_true rfl, Nat.le_of_ble_eq_true rfl⟩) rfl 6 rfl (by decide) (by decide) (fun H locs hP hS => ?_)
      refine lv_aload_n hx hb dX4_keep_25 rfl (lv_at hl 0 rfl) ?_
      refine va_get (ci := 4) (v := .ref (g 94)) (C := RX4) (T := TX4) (N := 8) hx hb hts iw_X4_keep_X4 hown hK hP 0 rfl rfl 7 (by decide) (hts (.fieldLink RX4 49 "BallastTrack" "kept" "[Z") (List.mem_of_getElem? (i := 4) rfl)) (fun _ h9 => h9) rfl dX4_keep_26 ?_
      refine lv_iload_n hx hb dX4_keep_29 rfl (lv_at hl 1 rfl) ?_
      refine lv_iconst (v := 1) hx hb dX4_keep_30 (by decide) ?_
      obtain ⟨hi24, hf⟩ := ix_i hf
      refine va_zast hx hb hK hP (va_D_adr hD rfl) hS 26 1 rfl rfl hi24 dX4_keep_31 (fun H locs hP _ hS => ?_)
      obtain ⟨u25, eu25⟩ : ∃ z : (Nat → Int32), z = upd (u_kept) p0.toNatClampNeg (vp_nar .boolean ((1 : Int32))) := ⟨_, rfl⟩
      replace hf := nm_i hf eu25
      have hP : va_P D vwCl (List.flatten [wT g, wS cT g 1 u_now, wI cT g 77, wS cT g 78 u_images_r0, wS cT g 86 o23, wK cT g 94 u25]) H := by rw [eu25]; exact hP
      refine lv_aload_n hx hb dX4_keep_32 rfl (lv_at hl 0 rfl) ?_
      refine va_get (ci := 4) (v := .ref (g 1)) (C := RX4) (T := TX4) (N := 8) hx hb hts iw_X4_keep_X4 hown hK hP 0 rfl rfl 0 (by decide) (hts (.fieldLink RX4 10 "BallastTrack" "now" "LBallastTrack$State;") (List.mem_of_getElem? (i := 3) rfl)) (fun _ h9 => h9) rfl dX4_keep_33 ?_
      refine va_get (ci := 1) (v := .ref (g (1 + 7))) (C := RX1) (T := TX1) (N := 9) hx hb hts iw_X4_keep_X1 hown hK hP 1 rfl rfl 8 (by decide) (hts (.fieldLink RX4 150 "BallastTrack$State" "accounts" "[I") (List.mem_of_getElem? (i := 5) rfl)) (fun _ h9 => h9) rfl dX4_keep_36 ?_
      refine lv_iconst (v := 4) hx hb dX4_keep_39 (by decide) ?_
      refine va_iald hx hb hK hP 8 0 rfl rfl (by unfold vp_in; decide) dX4_keep_40 ?_
      refine lv_topi (fun x26 ex26 => ?_)
      replace hf := nm_i hf ex26
      obtain rfl := Option.some.inj hf
      subst hQ
      exact en_i hx hb hr hP hS hlocks dX4_keep_41
    replace hf := it_f hf c22
    cases hf
  · replace hf := it_f hf (not_not_intro c15)
    refine lv_ldc (v := -100001) hx hb hown (hts (.constant RX4 57 (-100001)) (List.mem_of_getElem? (i := 1) rfl)) dX4_keep_9 ?_
    obtain rfl := Option.some.inj hf
    subst hQ
    exact en_i hx hb hr hP hS hlocks dX4_keep_11
theorem iw_X4_back_X1 : ∀ w ∈ u_ws RX1 TX1 9, w ∈ wsX4_back := by decide +kernel
theorem iw_X4_back_X4 : ∀ w ∈ u_ws RX4 TX4 8, w ∈ wsX4_back := by decide +kernel
def f_X4_back (fu : Nat) (u_now : TS) (u_history : TH) (u_history_r0 : TS) (u_history_r1 : TS) (u_history_r2 : TS) (u_history_r3 : TS) (u_history_r4 : TS) (u_history_r5 : TS) (u_images_r0 : TS) (u_images_r1 : TS) (u_kept : (Nat → Int32)) (p0 : Int32) : Option (Int32 × TS × TH × TS × TS × TS × TS × TS × TS) :=
bd (f_X4_isWithin fu  p0 ((0 : Int32)) ((1 : Int32))) fun (o14 : Bool) =>
if ¬ bI o14 = 0 then (
ix p0 2 <|
nm (u_kept p0.toNatClampNeg) fun (x17 : Int32) =>
if ¬ x17 = 0 then (
bd (f_X0_save fu u_history u_history_r0 u_history_r1 u_history_r2 u_history_r3 u_history_r4 u_history_r5 u_now ) fun (o19 : TH × TS × TS × TS × TS × TS × TS) =>
ix p0 2 <|
if p0 = (0 : Int32) then (
bd (f_X1_copyFrom fu u_now u_images_r0 ) fun (o22 : TS) =>
nm (S_ac o22 4) fun (x23 : Int32) =>
some (x23, o22, o19.1, o19.2.1, o19.2.2.1, o19.2.2.2.1, o19.2.2.2.2.1, o19.2.2.2.2.2.1, o19.2.2.2.2.2.2)
)
else if p0 = (1 : Int32) then (
bd (f_X1_copyFrom fu u_now u_images_r1 ) fun (o25 : TS) =>
nm (S_ac o25 4) fun (x26 : Int32) =>
some (x26, o25, o19.1, o19.2.1, o19.2.2.1, o19.2.2.2.1, o19.2.2.2.2.1, o19.2.2.2.2.2.1, o19.2.2.2.2.2.2)
)
else none
)
else (
some ((-100002 : Int32), u_now, u_history, u_history_r0, u_history_r1, u_history_r2, u_history_r3, u_history_r4, u_history_r5)
)
)
else (
some ((-100001 : Int32), u_now, u_history, u_history_r0, u_history_r1, u_history_r2, u_history_r3, u_history_r4, u_history_r5)
)

abbrev rm_X4_back : Room := { frames := 3, cells := 0, slots := 0, locals := 102 }
set_option maxHeartbeats 4000000 in
set_option maxRecDepth 100000 in
theorem c_X4_back (l : Launch) (D : va_G) (cT : Nat → ClassId) (g : Nat → Nat) (fu : Nat) (u_now : TS) (u_history : TH) (u_history_r0 : TS) (u_history_r1 : TS) (u_history_r2 : TS) (u_history_r3 : TS) (u_history_r4 : TS) (u_history_r5 : TS) (u_images_r0 : TS) (u_images_r1 : TS) (u_kept : (Nat → Int32)) (p0 : Int32) (o : Int32 × TS × TH × TS × TS × TS × TS × TS × TS) (hf : f_X4_back fu u_now u_history u_history_r0 u_history_r1 u_history_r2 u_history_r3 u_history_r4 u_history_r5 u_images_r0 u_images_r1 u_kept p0 = some o) (sz : Nat) : Met l yX4_back wsX4_back rm_X4_back (va_Pc [.ref (g 0), .int p0] (PRE D cT sz (List.flatten [wT g, wS cT g 1 u_now, wH cT g 25 u_history, wS cT g 27 u_history_r0, wS cT g 35 u_history_r1, wS cT g 43 u_history_r2, wS cT g 51 u_history_r3, wS cT g 59 u_history_r4, wS cT g 67 u_history_r5, wI cT g 77, wS cT g 78 u_images_r0, wS cT g 86 u_images_r1, wK cT g 94 u_kept]))) (QI D o.1 (List.flatten [wT g, wS cT g 1 o.2.1, wH cT g 25 o.2.2.1, wS cT g 27 o.2.2.2.1, wS cT g 35 o.2.2.2.2.1, wS cT g 43 o.2.2.2.2.2.1, wS cT g 51 o.2.2.2.2.2.2.1, wS cT g 59 o.2.2.2.2.2.2.2.1, wS cT g 67 o.2.2.2.2.2.2.2.2, wI cT g 77, wS cT g 78 u_images_r0, wS cT g 86 u_images_r1, wK cT g 94 u_kept]) (va_A (List.flatten [wT g, wS cT g 1 u_now, wH cT g 25 u_history, wS cT g 27 u_history_r0, wS cT g 35 u_history_r1, wS cT g 43 u_history_r2, wS cT g 51 u_history_r3, wS cT g 59 u_history_r4, wS cT g 67 u_history_r5, wI cT g 77, wS cT g 78 u_images_r0, wS cT g 86 u_images_r1, wK cT g 94 u_kept]) sz)) 0 0 (va_A (List.flatten [wT g, wS cT g 1 u_now, wH cT g 25 u_history, wS cT g 27 u_history_r0, wS cT g 35 u_history_r1, wS cT g 43 u_history_r2, wS cT g 51 u_history_r3, wS cT g 59 u_history_r4, wS cT g 67 u_history_r5, wI cT g 77, wS cT g 78 u_images_r0, wS cT g 86 u_images_r1, wK cT g 94 u_kept]) sz) := by
  refine Met.ofW (cc := cX4_back) (maxL := 2) (ret := (some .int)) (by decide) rfl ?_
  intro p e s m args below meth c s₁ B0 hml hv
  obtain ⟨hav, hsz, hP, hK, hD, hN, hZ⟩ := hv
  have hx := B0.exec
  have hb := B0.bytes
  have hr := B0.returns
  have hts := atoms_spec (ws := wsX4_back) B0.pre
  have hown : s.vm.findClass RX4 = some m.cls := findClass_of_methodNamed B0.named
  have hlocks := B0.notSynchronized
  subst hsz
  have hD := hD.self (sz := s.heap.size)
  have hA : ∀ q : Nat, s.heap.size ≤ q → va_A (List.flatten [wT g, wS cT g 1 u_now, wH cT g 25 u_history, wS cT g 27 u_history_r0, wS cT g 35 u_history_r1, wS cT g 43 u_history_r2, wS cT g 51 u_history_r3, wS cT g 59 u_history_r4, wS cT g 67 u_history_r5, wI cT g 77, wS cT g 78 u_images_r0, wS cT g 86 u_images_r1, wK cT g 94 u_kept]) s.heap.size q := fun q h => Or.inr h
  generalize va_A (List.flatten [wT g, wS cT g 1 u_now, wH cT g 25 u_history, wS cT g 27 u_history_r0, wS cT g 35 u_history_r1, wS cT g 43 u_history_r2, wS cT g 51 u_history_r3, wS cT g 59 u_history_r4, wS cT g 67 u_history_r5, wI cT g 77, wS cT g 78 u_images_r0, wS cT g 86 u_images_r1, wK cT g 94 u_kept]) s.heap.size = A at hD hZ hA ⊢
  have hS : va_S A s.heap s.heap [] := va_S.rf
  have hl := lv_entry ([.ref (g 0), .int p0]) (n := 2) (Nat.le_of_ble_eq_true rfl)
  rw [hav]
  rw [lg_entry_eq]
  generalize (lg_sl ([.ref (g 0), .int p0]) ++ List.replicate (2 - (lg_sl ([.ref (g 0), .int p0])).length) Slot.unset).toArray = ls at hl ⊢
  have hl : lv_has ls 2 [(0, .ref (g 0)), (1, .int p0)] := hl
  rw [← hav]
  generalize hQ : MQ below _ _ _ _ _ _ = Q
  show W p l e rm_X4_back s m args below meth c s.heap [] 0 0 Q (F0 m 0 ls [])
  unfold f_X4_back at hf
  refine lv_iload_n hx hb dX4_back_0 rfl (lv_at hl 1 rfl) ?_
  refine lv_iconst (v := 0) hx hb dX4_back_1 (by decide) ?_
  refine lv_iconst (v := 1) hx hb dX4_back_2 (by decide) ?_
  obtain ⟨o14, ho14, hf⟩ := bd_i hf
  refine cl_i [] [0, 1, 2, 3, 4, 5, 6, 7, 8, 9, 10, 11, 12] [wT g, wS cT g 1 u_now, wH cT g 25 u_history, wS cT g 27 u_history_r0, wS cT g 35 u_history_r1, wS cT g 43 u_history_r2, wS cT g 51 u_history_r3, wS cT g 59 u_history_r4, wS cT g 67 u_history_r5, wI cT g 77, wS cT g 78 u_images_r0, wS cT g 86 u_images_r1, wK cT g 94 u_kept] hP (va_D_adr hD rfl) hA hS (va_runS (As := [.int p0, .int ((0 : Int32)), .int ((1 : Int32))]) (rest := []) ⟨hx, hb, hml, hown, hts⟩ (c_X4_isWithin l D cT g  fu  p0 ((0 : Int32)) ((1 : Int32)) o14 ho14 _) (va_cwS 3 hts gX4_back_X4_isWithin rfl rfl rfl (by decide +kernel) ⟨Nat.le_of_ble_eq_true rfl, Nat.le_of_ble_eq_true rfl⟩) ⟨PRE_blind, PRE_ok [] (by decide) hP (va_D_adr hD rfl) hA hS hK hN hZ⟩ rfl rfl hl.1 rfl (lv_room (Nat.le_of_ble_eq_true rfl)) dX4_back_3 ⟨Nat.le_of_ble_eq_true rfl, Nat.le_of_ble_eq_true rfl⟩) rfl 13 rfl (by decide) (by decide) (fun H locs hP hS => ?_)
  refine lv_if_ne (tgt := 12) hx hb dX4_back_6 (by decide) (fun c15 => ?_) (fun c15 => ?_)
  · replace hf := it_t hf c15
    refine lv_aload_n hx hb dX4_back_12 rfl (lv_at hl 0 rfl) ?_
    refine va_get (ci := 4) (v := .ref (g 94)) (C := RX4) (T := TX4) (N := 8) hx hb hts iw_X4_back_X4 hown hK hP 0 rfl rfl 7 (by decide) (hts (.fieldLink RX4 49 "BallastTrack" "kept" "[Z") (List.mem_of_getElem? (i := 2) rfl)) (fun _ h9 => h9) rfl dX4_back_13 ?_
    refine lv_iload_n hx hb dX4_back_16 rfl (lv_at hl 1 rfl) ?_
    obtain ⟨hi16, hf⟩ := ix_i hf
    refine va_zald hx hb hK hP 76 1 rfl rfl hi16 dX4_back_17 ?_
    refine lv_topi (fun x17 ex17 => ?_)
    replace hf := nm_i hf ex17
    refine lv_if_ne (tgt := 24) hx hb dX4_back_18 (by decide) (fun c18 => ?_) (fun c18 => ?_)
    · replace hf := it_t hf c18
      refine lv_aload_n hx hb dX4_back_24 rfl (lv_at hl 0 rfl) ?_
      refine va_get (ci := 4) (v := .ref (g 25)) (C := RX4) (T := TX4) (N := 8) hx hb hts iw_X4_back_X4 hown hK hP 0 rfl rfl 4 (by decide) (hts (.fieldLink RX4 34 "BallastTrack" "history" "LBallastTrack$History;") (List.mem_of_getElem? (i := 4) rfl)) (fun _ h9 => h9) rfl dX4_back_25 ?_
      refine lv_aload_n hx hb dX4_back_28 rfl (lv_at hl 0 rfl) ?_
      refine va_get (ci := 4) (v := .ref (g 1)) (C := RX4) (T := TX4) (N := 8) hx hb hts iw_X4_back_X4 hown hK hP 0 rfl rfl 0 (by decide) (hts (.fieldLink RX4 10 "BallastTrack" "now" "LBallastTrack$State;") (List.mem_of_getElem? (i := 5) rfl)) (fun _ h9 => h9) rfl dX4_back_29 ?_
      obtain ⟨o19, ho19, hf⟩ := bd_i hf
      refine cl_v [2, 3, 4, 5, 6, 7, 8, 1] [0, 9, 10, 11, 12] [wT g, wS cT g 1 u_now, wH cT g 25 o19.1, wS cT g 27 o19.2.1, wS cT g 35 o19.2.2.1, wS cT g 43 o19.2.2.2.1, wS cT g 51 o19.2.2.2.2.1, wS cT g 59 o19.2.2.2.2.2.1, wS cT g 67 o19.2.2.2.2.2.2, wI cT g 77, wS cT g 78 u_images_r0, wS cT g 86 u_images_r1, wK cT g 94 u_kept] hP (va_D_adr hD rfl) hA hS (va_runV (As := [.ref (g 1)]) (rest := []) ⟨hx, hb, hml, hown, hts⟩ (c_X0_save l D cT g 25 1 fu u_history u_history_r0 u_history_r1 u_history_r2 u_history_r3 u_history_r4 u_history_r5 u_now  o19 ho19 _) (cwV 1 hts gX4_back_X0_save rfl rfl rfl (by decide +kernel) ⟨Nat.le_of_ble_eq_true rfl, Nat.le_of_ble_eq_true rfl⟩) ⟨PRE_blind, va_recv hK hP (ci := 0) (q0 := 9) rfl rfl, PRE_ok [2, 3, 4, 5, 6, 7, 8, 1] (by decide) hP (va_D_adr hD rfl) hA hS hK hN hZ⟩ rfl rfl hl.1 rfl (lv_room (Nat.le_of_ble_eq_true rfl)) dX4_back_32 ⟨Nat.le_of_ble_eq_true rfl, Nat.le_of_ble_eq_true rfl⟩) rfl 13 rfl (by decide) (by decide) (fun H locs hP hS => ?_)
      refine lv_aload_n hx hb dX4_back_35 rfl (lv_at hl 0 rfl) ?_
      refine va_get (ci := 4) (v := .ref (g 1)) (C := RX4) (T := TX4) (N := 8) hx hb hts iw_X4_back_X4 hown hK hP 0 rfl rfl 0 (by decide) (hts (.fieldLink RX4 10 "BallastTrack" "now" "LBallastTrack$State;") (List.mem_of_getElem? (i := 5) rfl)) (fun _ h9 => h9) rfl dX4_back_36 ?_
      refine lv_aload_n hx hb dX4_back_39 rfl (lv_at hl 0 rfl) ?_
      refine va_get (ci := 4) (v := .ref (g 77)) (C := RX4) (T := TX4) (N := 8) hx hb hts iw_X4_back_X4 hown hK hP 0 rfl rfl 6 (by decide) (hts (.fieldLink RX4 45 "BallastTrack" "images" "[LBallastTrack$State;") (List.mem_of_getElem? (i := 6) rfl)) (fun _ h9 => h9) rfl dX4_back_40 ?_
      refine lv_iload_n hx hb dX4_back_43 rfl (lv_at hl 1 rfl) ?_
      obtain ⟨hi20, hf⟩ := ix_i hf
      by_cases c21 : p0 = (0 : Int32)
      · replace hf := it_t hf c21
        refine va_aldq hx hb hK hP 59 3 rfl rfl hi20 dX4_back_44 ?_
        refine W.eq (g2 := F0 m 45 ls [.ref (g 78), .ref (g 1)]) (by rw [c21]; rfl) ?_
        obtain ⟨o22, ho22, hf⟩ := bd_i hf
        refine cl_v [1, 10] [0, 2, 3, 4, 5, 6, 7, 8, 9, 11, 12] [wT g, wS cT g 1 o22, wH cT g 25 o19.1, wS cT g 27 o19.2.1, wS cT g 35 o19.2.2.1, wS cT g 43 o19.2.2.2.1, wS cT g 51 o19.2.2.2.2.1, wS cT g 59 o19.2.2.2.2.2.1, wS cT g 67 o19.2.2.2.2.2.2, wI cT g 77, wS cT g 78 u_images_r0, wS cT g 86 u_images_r1, wK cT g 94 u_kept] hP (va_D_adr hD rfl) hA hS (va_runV (As := [.ref (g 78)]) (rest := []) ⟨hx, hb, hml, hown, hts⟩ (c_X1_copyFrom l D cT g 1 78 fu u_now u_images_r0  o22 ho22 _) (cwV 1 hts gX4_back_X1_copyFrom rfl rfl rfl (by decide +kernel) ⟨Nat.le_of_ble_eq_true rfl, Nat.le_of_ble_eq_true rfl⟩) ⟨PRE_blind, va_recv hK hP (ci := 1) (q0 := 1) rfl rfl, PRE_ok [1, 10] (by decide) hP (va_D_adr hD rfl) hA hS hK hN hZ⟩ rfl rfl hl.1 rfl (lv_room (Nat.le_of_ble_eq_true rfl)) dX4_back_45 ⟨Nat.le_of_ble_eq_true rfl, Nat.le_of_ble_eq_true rfl⟩) rfl 13 rfl (by decide) (by decide) (fun H locs hP hS => ?_)
        refine lv_aload_n hx hb dX4_back_48 rfl (lv_at hl 0 rfl) ?_
        refine va_get (ci := 4) (v := .ref (g 1)) (C := RX4) (T := TX4) (N := 8) hx hb hts iw_X4_back_X4 hown hK hP 0 rfl rfl 0 (by decide) (hts (.fieldLink RX4 10 "BallastTrack" "now" "LBallastTrack$State;") (List.mem_of_getElem? (i := 5) rfl)) (fun _ h9 => h9) rfl dX4_back_49 ?_
        refine va_get (ci := 1) (v := .ref (g (1 + 7))) (C := RX1) (T := TX1) (N := 9) hx hb hts iw_X4_back_X1 hown hK hP 1 rfl rfl 8 (by decide) (hts (.fieldLink RX4 150 "BallastTrack$State" "accounts" "[I") (List.mem_of_getElem? (i := 7) rfl)) (fun _ h9 => h9) rfl dX4_back_52 ?_
        refine lv_iconst (v := 4) hx hb dX4_back_55 (by decide) ?_
        refine va_iald hx hb hK hP 8 0 rfl rfl (by unfold vp_in; decide) dX4_back_56 ?_
        refine lv_topi (fun x23 ex23 => ?_)
        replace hf := nm_i hf ex23
        obtain rfl := Option.some.inj hf
        subst hQ
        exact en_i hx hb hr hP hS hlocks dX4_back_57
      replace hf := it_f hf c21
      by_cases c24 : p0 = (1 : Int32)
      · replace hf := it_t hf c24
        refine va_aldq hx hb hK hP 59 3 rfl rfl hi20 dX4_back_44 ?_
        refine W.eq (g2 := F0 m 45 ls [.ref (g 86), .ref (g 1)]) (by rw [c24]; rfl) ?_
        obtain ⟨o25, ho25, hf⟩ := bd_i hf
        refine cl_v [1, 11] [0, 2, 3, 4, 5, 6, 7, 8, 9, 10, 12] [wT g, wS cT g 1 o25, wH cT g 25 o19.1, wS cT g 27 o19.2.1, wS cT g 35 o19.2.2.1, wS cT g 43 o19.2.2.2.1, wS cT g 51 o19.2.2.2.2.1, wS cT g 59 o19.2.2.2.2.2.1, wS cT g 67 o19.2.2.2.2.2.2, wI cT g 77, wS cT g 78 u_images_r0, wS cT g 86 u_images_r1, wK cT g 94 u_kept] hP (va_D_adr hD rfl) hA hS (va_runV (As := [.ref (g 86)]) (rest := []) ⟨hx, hb, hml, hown, hts⟩ (c_X1_copyFrom l D cT g 1 86 fu u_now u_images_r1  o25 ho25 _) (cwV 1 hts gX4_back_X1_copyFrom rfl rfl rfl (by decide +kernel) ⟨Nat.le_of_ble_eq_true rfl, Nat.le_of_ble_eq_true rfl⟩) ⟨PRE_blind, va_recv hK hP (ci := 1) (q0 := 1) rfl rfl, PRE_ok [1, 11] (by decide) hP (va_D_adr hD rfl) hA hS hK hN hZ⟩ rfl rfl hl.1 rfl (lv_room (Nat.le_of_ble_eq_true rfl)) dX4_back_45 ⟨Nat.le_of_ble_eq_true rfl, Nat.le_of_ble_eq_true rfl⟩) rfl 13 rfl (by decide) (by decide) (fun H locs hP hS => ?_)
        refine lv_aload_n hx hb dX4_back_48 rfl (lv_at hl 0 rfl) ?_
        refine va_get (ci := 4) (v := .ref (g 1)) (C := RX4) (T := TX4) (N := 8) hx hb hts iw_X4_back_X4 hown hK hP 0 rfl rfl 0 (by decide) (hts (.fieldLink RX4 10 "BallastTrack" "now" "LBallastTrack$State;") (List.mem_of_getElem? (i := 5) rfl)) (fun _ h9 => h9) rfl dX4_back_49 ?_
        refine va_get (ci := 1) (v := .ref (g (1 + 7))) (C := RX1) (T := TX1) (N := 9) hx hb hts iw_X4_back_X1 hown hK hP 1 rfl rfl 8 (by decide) (hts (.fieldLink RX4 150 "BallastTrack$State" "accounts" "[I") (List.mem_of_getElem? (i := 7) rfl)) (fun _ h9 => h9) rfl dX4_back_52 ?_
        refine lv_iconst (v := 4) hx hb dX4_back_55 (by decide) ?_
        refine va_iald hx hb hK hP 8 0 rfl rfl (by unfold vp_in; decide) dX4_back_56 ?_
        refine lv_topi (fun x26 ex26 => ?_)
        replace hf := nm_i hf ex26
        obtain rfl := Option.some.inj hf
        subst hQ
        exact en_i hx hb hr hP hS hlocks dX4_back_57
      replace hf := it_f hf c24
      cases hf
    · replace hf := it_f hf (not_not_intro c18)
      refine lv_ldc (v := -100002) hx hb hown (hts (.constant RX4 133 (-100002)) (List.mem_of_getElem? (i := 3) rfl)) dX4_back_21 ?_
      obtain rfl := Option.some.inj hf
      subst hQ
      exact en_i hx hb hr hP hS hlocks dX4_back_23
  · replace hf := it_f hf (not_not_intro c15)
    refine lv_ldc (v := -100001) hx hb hown (hts (.constant RX4 57 (-100001)) (List.mem_of_getElem? (i := 1) rfl)) dX4_back_9 ?_
    obtain rfl := Option.some.inj hf
    subst hQ
    exact en_i hx hb hr hP hS hlocks dX4_back_11
theorem iw_X4_undo_X0 : ∀ w ∈ u_ws RX0 TX0 3, w ∈ wsX4_undo := by decide +kernel
theorem iw_X4_undo_X4 : ∀ w ∈ u_ws RX4 TX4 8, w ∈ wsX4_undo := by decide +kernel
def f_X4_undo (fu : Nat) (u_now : TS) (u_history : TH) (u_history_r0 : TS) (u_history_r1 : TS) (u_history_r2 : TS) (u_history_r3 : TS) (u_history_r4 : TS) (u_history_r5 : TS)  : Option (Int32 × TS × TH) :=
nm (H_sz u_history) fun (x5 : Int32) =>
if ¬ x5 = 0 then (
bd (f_X0_restore fu u_history u_history_r0 u_history_r1 u_history_r2 u_history_r3 u_history_r4 u_history_r5 u_now ) fun (o7 : TH × TS) =>
nm (H_sz o7.1) fun (x8 : Int32) =>
some (x8, o7.2, o7.1)
)
else (
some ((-100002 : Int32), u_now, u_history)
)

abbrev rm_X4_undo : Room := { frames := 3, cells := 0, slots := 0, locals := 102 }
set_option maxHeartbeats 4000000 in
set_option maxRecDepth 100000 in
theorem c_X4_undo (l : Launch) (D : va_G) (cT : Nat → ClassId) (g : Nat → Nat) (fu : Nat) (u_now : TS) (u_history : TH) (u_history_r0 : TS) (u_history_r1 : TS) (u_history_r2 : TS) (u_history_r3 : TS) (u_history_r4 : TS) (u_history_r5 : TS)  (o : Int32 × TS × TH) (hf : f_X4_undo fu u_now u_history u_history_r0 u_history_r1 u_history_r2 u_history_r3 u_history_r4 u_history_r5  = some o) (sz : Nat) : Met l yX4_undo wsX4_undo rm_X4_undo (va_Pc [.ref (g 0)] (PRE D cT sz (List.flatten [wT g, wS cT g 1 u_now, wH cT g 25 u_history, wS cT g 27 u_history_r0, wS cT g 35 u_history_r1, wS cT g 43 u_history_r2, wS cT g 51 u_history_r3, wS cT g 59 u_history_r4, wS cT g 67 u_history_r5]))) (QI D o.1 (List.flatten [wT g, wS cT g 1 o.2.1, wH cT g 25 o.2.2, wS cT g 27 u_history_r0, wS cT g 35 u_history_r1, wS cT g 43 u_history_r2, wS cT g 51 u_history_r3, wS cT g 59 u_history_r4, wS cT g 67 u_history_r5]) (va_A (List.flatten [wT g, wS cT g 1 u_now, wH cT g 25 u_history, wS cT g 27 u_history_r0, wS cT g 35 u_history_r1, wS cT g 43 u_history_r2, wS cT g 51 u_history_r3, wS cT g 59 u_history_r4, wS cT g 67 u_history_r5]) sz)) 0 0 (va_A (List.flatten [wT g, wS cT g 1 u_now, wH cT g 25 u_history, wS cT g 27 u_history_r0, wS cT g 35 u_history_r1, wS cT g 43 u_history_r2, wS cT g 51 u_history_r3, wS cT g 59 u_history_r4, wS cT g 67 u_history_r5]) sz) := by
  refine Met.ofW (cc := cX4_undo) (maxL := 1) (ret := (some .int)) (by decide) rfl ?_
  intro p e s m args below meth c s₁ B0 hml hv
  obtain ⟨hav, hsz, hP, hK, hD, hN, hZ⟩ := hv
  have hx := B0.exec
  have hb := B0.bytes
  have hr := B0.returns
  have hts := atoms_spec (ws := wsX4_undo) B0.pre
  have hown : s.vm.findClass RX4 = some m.cls := findClass_of_methodNamed B0.named
  have hlocks := B0.notSynchronized
  subst hsz
  have hD := hD.self (sz := s.heap.size)
  have hA : ∀ q : Nat, s.heap.size ≤ q → va_A (List.flatten [wT g, wS cT g 1 u_now, wH cT g 25 u_history, wS cT g 27 u_history_r0, wS cT g 35 u_history_r1, wS cT g 43 u_history_r2, wS cT g 51 u_history_r3, wS cT g 59 u_history_r4, wS cT g 67 u_history_r5]) s.heap.size q := fun q h => Or.inr h
  generalize va_A (List.flatten [wT g, wS cT g 1 u_now, wH cT g 25 u_history, wS cT g 27 u_history_r0, wS cT g 35 u_history_r1, wS cT g 43 u_history_r2, wS cT g 51 u_history_r3, wS cT g 59 u_history_r4, wS cT g 67 u_history_r5]) s.heap.size = A at hD hZ hA ⊢
  have hS : va_S A s.heap s.heap [] := va_S.rf
  have hl := lv_entry ([.ref (g 0)]) (n := 1) (Nat.le_of_ble_eq_true rfl)
  rw [hav]
  rw [lg_entry_eq]
  generalize (lg_sl ([.ref (g 0)]) ++ List.replicate (1 - (lg_sl ([.ref (g 0)])).length) Slot.unset).toArray = ls at hl ⊢
  have hl : lv_has ls 1 [(0, .ref (g 0))] := hl
  rw [← hav]
  generalize hQ : MQ below _ _ _ _ _ _ = Q
  show W p l e rm_X4_undo s m args below meth c s.heap [] 0 0 Q (F0 m 0 ls [])
  unfold f_X4_undo at hf
  refine lv_aload_n hx hb dX4_undo_0 rfl (lv_at hl 0 rfl) ?_
  refine va_get (ci := 4) (v := .ref (g 25)) (C := RX4) (T := TX4) (N := 8) hx hb hts iw_X4_undo_X4 hown hK hP 0 rfl rfl 4 (by decide) (hts (.fieldLink RX4 34 "BallastTrack" "history" "LBallastTrack$History;") (List.mem_of_getElem? (i := 1) rfl)) (fun _ h9 => h9) rfl dX4_undo_1 ?_
  refine va_get (ci := 0) (v := .int (H_sz u_history)) (C := RX0) (T := TX0) (N := 3) hx hb hts iw_X4_undo_X0 hown hK hP 9 rfl rfl 2 (by decide) (hts (.fieldLink RX4 153 "BallastTrack$History" "size" "I") (List.mem_of_getElem? (i := 2) rfl)) (fun _ h9 => h9) rfl dX4_undo_4 ?_
  refine lv_topi (fun x5 ex5 => ?_)
  replace hf := nm_i hf ex5
  refine lv_if_ne (tgt := 13) hx hb dX4_undo_7 (by decide) (fun c6 => ?_) (fun c6 => ?_)
  · replace hf := it_t hf c6
    refine lv_aload_n hx hb dX4_undo_13 rfl (lv_at hl 0 rfl) ?_
    refine va_get (ci := 4) (v := .ref (g 25)) (C := RX4) (T := TX4) (N := 8) hx hb hts iw_X4_undo_X4 hown hK hP 0 rfl rfl 4 (by decide) (hts (.fieldLink RX4 34 "BallastTrack" "history" "LBallastTrack$History;") (List.mem_of_getElem? (i := 1) rfl)) (fun _ h9 => h9) rfl dX4_undo_14 ?_
    refine lv_aload_n hx hb dX4_undo_17 rfl (lv_at hl 0 rfl) ?_
    refine va_get (ci := 4) (v := .ref (g 1)) (C := RX4) (T := TX4) (N := 8) hx hb hts iw_X4_undo_X4 hown hK hP 0 rfl rfl 0 (by decide) (hts (.fieldLink RX4 10 "BallastTrack" "now" "LBallastTrack$State;") (List.mem_of_getElem? (i := 4) rfl)) (fun _ h9 => h9) rfl dX4_undo_18 ?_
    obtain ⟨o7, ho7, hf⟩ := bd_i hf
    refine cl_v [2, 3, 4, 5, 6, 7, 8, 1] [0] [wT g, wS cT g 1 o7.2, wH cT g 25 o7.1, wS cT g 27 u_history_r0, wS cT g 35 u_history_r1, wS cT g 43 u_history_r2, wS cT g 51 u_history_r3, wS cT g 59 u_history_r4, wS cT g 67 u_history_r5] hP (va_D_adr hD rfl) hA hS (va_runV (As := [.ref (g 1)]) (rest := []) ⟨hx, hb, hml, hown, hts⟩ (c_X0_restore l D cT g 25 1 fu u_history u_history_r0 u_history_r1 u_history_r2 u_history_r3 u_history_r4 u_history_r5 u_now  o7 ho7 _) (cwV 1 hts gX4_undo_X0_restore rfl rfl rfl (by decide +kernel) ⟨Nat.le_of_ble_eq_true rfl, Nat.le_of_ble_eq_true rfl⟩) ⟨PRE_blind, va_recv hK hP (ci := 0) (q0 := 9) rfl rfl, PRE_ok [2, 3, 4, 5, 6, 7, 8, 1] (by decide) hP (va_D_adr hD rfl) hA hS hK hN hZ⟩ rfl rfl hl.1 rfl (lv_room (Nat.le_of_ble_eq_true rfl)) dX4_undo_21 ⟨Nat.le_of_ble_eq_true rfl, Nat.le_of_ble_eq_true rfl⟩) rfl 9 rfl (by decide) (by decide) (fun H locs hP hS => ?_)
    refine lv_aload_n hx hb dX4_undo_24 rfl (lv_at hl 0 rfl) ?_
    refine va_get (ci := 4) (v := .ref (g 25)) (C := RX4) (T := TX4) (N := 8) hx hb hts iw_X4_undo_X4 hown hK hP 0 rfl rfl 4 (by decide) (hts (.fieldLink RX4 34 "BallastTrack" "history" "LBallastTrack$History;") (List.mem_of_getElem? (i := 1) rfl)) (fun _ h9 => h9) rfl dX4_undo_25 ?_
    refine va_get (ci := 0) (v := .int (H_sz o7.1)) (C := RX0) (T := TX0) (N := 3) hx hb hts iw_X4_undo_X0 hown hK hP 9 rfl rfl 2 (by decide) (hts (.fieldLink RX4 153 "BallastTrack$History" "size" "I") (List.mem_of_getElem? (i := 2) rfl)) (fun _ h9 => h9) rfl dX4_undo_28 ?_
    refine lv_topi (fun x8 ex8 => ?_)
    replace hf := nm_i hf ex8
    obtain rfl := Option.some.inj hf
    subst hQ
    exact en_i hx hb hr hP hS hlocks dX4_undo_31
  · replace hf := it_f hf (not_not_intro c6)
    refine lv_ldc (v := -100002) hx hb hown (hts (.constant RX4 133 (-100002)) (List.mem_of_getElem? (i := 3) rfl)) dX4_undo_10 ?_
    obtain rfl := Option.some.inj hf
    subst hQ
    exact en_i hx hb hr hP hS hlocks dX4_undo_12
theorem iw_X4_keptMask_X4 : ∀ w ∈ u_ws RX4 TX4 8, w ∈ wsX4_keptMask := by decide +kernel
def lb_X4_keptMask_4 (fu : Nat) (u_kept : (Nat → Int32)) (rec : Int32 → Int32 → Option (Int32)) (v34 : Int32) (v35 : Int32) : Option (Int32) :=
if (2 : Int32) ≤ v35 then (
some (v34)
)
else (
ix v35 2 <|
nm (u_kept v35.toNatClampNeg) fun (x40 : Int32) =>
jn (fun (x44 : Int32) =>
nm (v35 + (1 : Int32)) fun (x47 : Int32) =>
rec x44 x47
) fun K24_46 =>
if x40 = 0 then (
K24_46 v34
)
else (
nm ((1 : Int32) <<< (v35 &&& 31)) fun (x49 : Int32) =>
nm (v34 ||| x49) fun (x50 : Int32) =>
K24_46 x50
)
)

def lf_X4_keptMask_4 (fu : Nat) (u_kept : (Nat → Int32)) : Nat → Int32 → Int32 → Option (Int32) := lq_2 (lb_X4_keptMask_4 fu u_kept)
def f_X4_keptMask (fu : Nat) (u_kept : (Nat → Int32))  : Option (Int32) :=
bd (lf_X4_keptMask_4 fu u_kept fu ((0 : Int32)) ((0 : Int32))) fun (z37 : Int32) =>
some (z37)

abbrev rm_X4_keptMask : Room := { frames := 0, cells := 0, slots := 0, locals := 0 }
set_option maxHeartbeats 4000000 in
set_option maxRecDepth 100000 in
theorem c_X4_keptMask (l : Launch) (D : va_G) (cT : Nat → ClassId) (g : Nat → Nat) (fu : Nat) (u_kept : (Nat → Int32))  (o : Int32) (hf : f_X4_keptMask fu u_kept  = some o) (sz : Nat) : Met l yX4_keptMask wsX4_keptMask rm_X4_keptMask (va_Pc [.ref (g 0)] (PRE D cT sz (List.flatten [wT g, wK cT g 94 u_kept]))) (QI D o (List.flatten [wT g, wK cT g 94 u_kept]) (va_A (List.flatten [wT g, wK cT g 94 u_kept]) sz)) 0 0 (va_A (List.flatten [wT g, wK cT g 94 u_kept]) sz) := by
  refine Met.ofW (cc := cX4_keptMask) (maxL := 3) (ret := (some .int)) (by decide) rfl ?_
  intro p e s m args below meth c s₁ B0 hml hv
  obtain ⟨hav, hsz, hP, hK, hD, hN, hZ⟩ := hv
  have hx := B0.exec
  have hb := B0.bytes
  have hr := B0.returns
  have hts := atoms_spec (ws := wsX4_keptMask) B0.pre
  have hown : s.vm.findClass RX4 = some m.cls := findClass_of_methodNamed B0.named
  have hlocks := B0.notSynchronized
  subst hsz
  have hD := hD.self (sz := s.heap.size)
  have hA : ∀ q : Nat, s.heap.size ≤ q → va_A (List.flatten [wT g, wK cT g 94 u_kept]) s.heap.size q := fun q h => Or.inr h
  generalize va_A (List.flatten [wT g, wK cT g 94 u_kept]) s.heap.size = A at hD hZ hA ⊢
  have hS : va_S A s.heap s.heap [] := va_S.rf
  have hl := lv_entry ([.ref (g 0)]) (n := 3) (Nat.le_of_ble_eq_true rfl)
  rw [hav]
  rw [lg_entry_eq]
  generalize (lg_sl ([.ref (g 0)]) ++ List.replicate (3 - (lg_sl ([.ref (g 0)])).length) Slot.unset).toArray = ls at hl ⊢
  have hl : lv_has ls 3 [(0, .ref (g 0))] := hl
  rw [← hav]
  generalize hQ : MQ below _ _ _ _ _ _ = Q
  show W p l e rm_X4_keptMask s m args below meth c s.heap [] 0 0 Q (F0 m 0 ls [])
  unfold f_X4_keptMask at hf
  refine lv_iconst (v := 0) hx hb dX4_keptMask_0 (by decide) ?_
  refine lv_istore_n (lv' := [(1, .int ((0 : Int32))), (0, .ref (g 0))]) hx hb dX4_keptMask_1 rfl hl (by decide) rfl (fun ls hl => ?_)
  refine lv_iconst (v := 0) hx hb dX4_keptMask_2 (by decide) ?_
  refine lv_istore_n (lv' := [(2, .int ((0 : Int32))), (1, .int ((0 : Int32))), (0, .ref (g 0))]) hx hb dX4_keptMask_3 rfl hl (by decide) rfl (fun ls hl => ?_)
  obtain ⟨z37, hz37, hf⟩ := bd_i hf
  have hL4 : ∀ (n : Nat) (v34 : Int32) (v35 : Int32) (z36 : Int32), lf_X4_keptMask_4 fu u_kept n v34 v35 = some z36 → ∀ (H : Heap) (locs : List Loc) (ls : Array Slot), va_P D vwCl (List.flatten [wT g, wK cT g 94 u_kept]) H → va_S A s.heap H locs → lv_has ls 3 [(0, .ref (g 0)), (1, .int v34), (2, .int v35)] → (∀ (H : Heap) (locs : List Loc) (ls : Array Slot), va_P D vwCl (List.flatten [wT g, wK cT g 94 u_kept]) H → va_S A s.heap H locs → lv_has ls 3 [(1, .int z36)] → W p l e rm_X4_keptMask s m args below meth c H locs 0 0 Q (F0 m 30 ls [])) → W p l e rm_X4_keptMask s m args below meth c H locs 0 0 Q (F0 m 4 ls []) := by
    refine lq_2_ind (F := lb_X4_keptMask_4 fu u_kept) (fun rec ih v34 v35 z36 hf H locs ls hP hS hl kx => ?_)
    unfold lb_X4_keptMask_4 at hf
    refine lv_iload_n hx hb dX4_keptMask_4 rfl (lv_at hl 2 rfl) ?_
    refine lv_iconst (v := 2) hx hb dX4_keptMask_5 (by decide) ?_
    refine lv_icmp_ge (tgt := 30) hx hb dX4_keptMask_6 (by decide) (fun c38 => ?_) (fun c38 => ?_)
    · replace hf := it_t hf c38
      obtain rfl := Option.some.inj hf
      exact kx _ _ _ hP hS (lv_sub hl [1] rfl)
    · replace hf := it_f hf c38
      refine lv_aload_n hx hb dX4_keptMask_9 rfl (lv_at hl 0 rfl) ?_
      refine va_get (ci := 4) (v := .ref (g 94)) (C := RX4) (T := TX4) (N := 8) hx hb hts iw_X4_keptMask_X4 hown hK hP 0 rfl rfl 7 (by decide) (hts (.fieldLink RX4 49 "BallastTrack" "kept" "[Z") (List.mem_of_getElem? (i := 1) rfl)) (fun _ h9 => h9) rfl dX4_keptMask_10 ?_
      refine lv_iload_n hx hb dX4_keptMask_13 rfl (lv_at hl 2 rfl) ?_
      obtain ⟨hi39, hf⟩ := ix_i hf
      refine va_zald hx hb hK hP 1 1 rfl rfl hi39 dX4_keptMask_14 ?_
      refine lv_topi (fun x40 ex40 => ?_)
      replace hf := nm_i hf ex40
      obtain ⟨K24_46, eK24_46, hf⟩ := jn_i hf
      have hK24_46 : ∀ (x44 : Int32) (H : Heap) (locs : List Loc) (ls : Array Slot), K24_46 x44 = some z36 → va_P D vwCl (List.flatten [wT g, wK cT g 94 u_kept]) H → va_S A s.heap H locs → lv_has ls 3 [(0, .ref (g 0)), (1, .int x44), (2, .int v35)] → W p l e rm_X4_keptMask s m args below meth c H locs 0 0 Q (F0 m 24 ls []) := by
        intro x44 H locs ls hf hP hS hl
        rw [eK24_46] at hf
        obtain ⟨x47, ex47⟩ : ∃ z : Int32, z = v35 + (1 : Int32) := ⟨_, rfl⟩
        replace hf := nm_i hf ex47
        refine lv_iinc (v := x47) (lv' := [(2, .int x47), (0, .ref (g 0)), (1, .int x44)]) hx hb dX4_keptMask_24 hl (k := 2) rfl (by rw [ex47]; rfl) (by decide) rfl (fun ls hl => ?_)
        refine lv_goto (tgt := 4) hx hb dX4_keptMask_27 (by decide) ?_
        exact ih _ _ _ hf _ _ _ hP hS (lv_sub hl [1, 2, 0] rfl) kx
      clear eK24_46
      refine lv_if_eq (tgt := 24) hx hb dX4_keptMask_15 (by decide) (fun c48 => ?_) (fun c48 => ?_)
      · replace hf := it_t hf c48
        exact hK24_46 _ _ _ _ hf hP hS (lv_sub hl [0, 1, 2] rfl)
      · replace hf := it_f hf c48
        refine lv_iload_n hx hb dX4_keptMask_18 rfl (lv_at hl 1 rfl) ?_
        refine lv_iconst (v := 1) hx hb dX4_keptMask_19 (by decide) ?_
        refine lv_iload_n hx hb dX4_keptMask_20 rfl (lv_at hl 2 rfl) ?_
        refine lv_ishl hx hb dX4_keptMask_21 ?_
        refine lv_topi (fun x49 ex49 => ?_)
        replace hf := nm_i hf ex49
        refine lv_ior hx hb dX4_keptMask_22 ?_
        refine lv_topi (fun x50 ex50 => ?_)
        replace hf := nm_i hf ex50
        refine lv_istore_n (lv' := [(1, .int x50), (0, .ref (g 0)), (2, .int v35)]) hx hb dX4_keptMask_23 rfl hl (by decide) rfl (fun ls hl => ?_)
        exact hK24_46 _ _ _ _ hf hP hS (lv_sub hl [1, 0, 2] rfl)
  refine hL4 fu _ _ _ hz37 _ _ _ hP hS (lv_sub hl [2, 1, 0] rfl) (fun H locs ls hP hS hl => ?_)
  refine lv_iload_n hx hb dX4_keptMask_30 rfl (lv_at hl 0 rfl) ?_
  obtain rfl := Option.some.inj hf
  subst hQ
  exact en_i hx hb hr hP hS hlocks dX4_keptMask_31
theorem iw_X4_count_X0 : ∀ w ∈ u_ws RX0 TX0 3, w ∈ wsX4_count := by decide +kernel
theorem iw_X4_count_X1 : ∀ w ∈ u_ws RX1 TX1 9, w ∈ wsX4_count := by decide +kernel
theorem iw_X4_count_X2 : ∀ w ∈ u_ws RX2 TX2 8, w ∈ wsX4_count := by decide +kernel
theorem iw_X4_count_X3 : ∀ w ∈ u_ws RX3 TX3 4, w ∈ wsX4_count := by decide +kernel
theorem iw_X4_count_X4 : ∀ w ∈ u_ws RX4 TX4 8, w ∈ wsX4_count := by decide +kernel
def f_X4_count (fu : Nat) (u_now : TS) (u_survey : TV) (u_history : TH) (u_text : TX) (u_kept : (Nat → Int32)) (p0 : Int32) : Option (Int32 × TV) :=
bd (f_X4_isWithin fu  p0 ((0 : Int32)) ((14 : Int32))) fun (o75 : Bool) =>
if ¬ bI o75 = 0 then (
jn (if p0 = (0 : Int32) then (
nm (S_sl u_now) fun (x115 : Int32) =>
some (x115, u_survey)
)
else if p0 = (1 : Int32) then (
bd (f_X4_keptMask fu u_kept ) fun (o117 : Int32) =>
some (o117, u_survey)
)
else if p0 = (2 : Int32) then (
bd (f_X4_keptMask fu u_kept ) fun (o119 : Int32) =>
some (o119, u_survey)
)
else if p0 = (3 : Int32) then (
bd (f_X4_keptMask fu u_kept ) fun (o121 : Int32) =>
some (o121, u_survey)
)
else if p0 = (4 : Int32) then (
bd (f_X4_keptMask fu u_kept ) fun (o123 : Int32) =>
some (o123, u_survey)
)
else if p0 = (5 : Int32) then (
bd (f_X4_keptMask fu u_kept ) fun (o125 : Int32) =>
some (o125, u_survey)
)
else if p0 = (6 : Int32) then (
bd (f_X4_keptMask fu u_kept ) fun (o127 : Int32) =>
some (o127, u_survey)
)
else if p0 = (7 : Int32) then (
bd (f_X4_keptMask fu u_kept ) fun (o129 : Int32) =>
some (o129, u_survey)
)
else if p0 = (8 : Int32) then (
bd (f_X4_keptMask fu u_kept ) fun (o131 : Int32) =>
some (o131, u_survey)
)
else if p0 = (9 : Int32) then (
nm (S_jb u_now) fun (x133 : Int32) =>
some (x133, u_survey)
)
else if p0 = (10 : Int32) then (
bd (f_X2_look fu u_survey u_now ) fun (o135 : TV) =>
nm (V_hc o135) fun (x136 : Int32) =>
some (x136, o135)
)
else if p0 = (11 : Int32) then (
bd (f_X2_look fu u_survey u_now ) fun (o138 : TV) =>
nm (V_od o138) fun (x139 : Int32) =>
some (x139, o138)
)
else if p0 = (12 : Int32) then (
nm (X_ln u_text) fun (x141 : Int32) =>
some (x141, u_survey)
)
else if p0 = (13 : Int32) then (
nm (H_sz u_history) fun (x143 : Int32) =>
some (x143, u_survey)
)
else (
bd (f_X4_keptMask fu u_kept ) fun (o144 : Int32) =>
some (o144, u_survey)
)
) fun K36_113 =>
if p0 < (1 : Int32) then (
K36_113 
)
else (
if (8 : Int32) < p0 then (
K36_113 
)
else (
nm (p0 - (1 : Int32)) fun (x147 : Int32) =>
ix x147 8 <|
nm ((S_nu u_now) x147.toNatClampNeg) fun (x149 : Int32) =>
some (x149, u_survey)
)
)
)
else (
some ((-100001 : Int32), u_survey)
)

abbrev rm_X4_count : Room := { frames := 4, cells := 0, slots := 0, locals := 86 }
set_option maxHeartbeats 4000000 in
set_option maxRecDepth 100000 in
theorem c_X4_count (l : Launch) (D : va_G) (cT : Nat → ClassId) (g : Nat → Nat) (fu : Nat) (u_now : TS) (u_survey : TV) (u_history : TH) (u_text : TX) (u_kept : (Nat → Int32)) (p0 : Int32) (o : Int32 × TV) (hf : f_X4_count fu u_now u_survey u_history u_text u_kept p0 = some o) (sz : Nat) : Met l yX4_count wsX4_count rm_X4_count (va_Pc [.ref (g 0), .int p0] (PRE D cT sz (List.flatten [wT g, wS cT g 1 u_now, wV cT g 9 1 u_survey, wH cT g 25 u_history, wX cT g 75 u_text, wK cT g 94 u_kept]))) (QI D o.1 (List.flatten [wT g, wS cT g 1 u_now, wV cT g 9 1 o.2, wH cT g 25 u_history, wX cT g 75 u_text, wK cT g 94 u_kept]) (va_A (List.flatten [wT g, wS cT g 1 u_now, wV cT g 9 1 u_survey, wH cT g 25 u_history, wX cT g 75 u_text, wK cT g 94 u_kept]) sz)) 0 0 (va_A (List.flatten [wT g, wS cT g 1 u_now, wV cT g 9 1 u_survey, wH cT g 25 u_history, wX cT g 75 u_text, wK cT g 94 u_kept]) sz) := by
  refine Met.ofW (cc := cX4_count) (maxL := 2) (ret := (some .int)) (by decide) rfl ?_
  intro p e s m args below meth c s₁ B0 hml hv
  obtain ⟨hav, hsz, hP, hK, hD, hN, hZ⟩ := hv
  have hx := B0.exec
  have hb := B0.bytes
  have hr := B0.returns
  have hts := atoms_spec (ws := wsX4_count) B0.pre
  have hown : s.vm.findClass RX4 = some m.cls := findClass_of_methodNamed B0.named
  have hlocks := B0.notSynchronized
  subst hsz
  have hD := hD.self (sz := s.heap.size)
  have hA : ∀ q : Nat, s.heap.size ≤ q → va_A (List.flatten [wT g, wS cT g 1 u_now, wV cT g 9 1 u_survey, wH cT g 25 u_history, wX cT g 75 u_text, wK cT g 94 u_kept]) s.heap.size q := fun q h => Or.inr h
  generalize va_A (List.flatten [wT g, wS cT g 1 u_now, wV cT g 9 1 u_survey, wH cT g 25 u_history, wX cT g 75 u_text, wK cT g 94 u_kept]) s.heap.size = A at hD hZ hA ⊢
  have hS : va_S A s.heap s.heap [] := va_S.rf
  have hl := lv_entry ([.ref (g 0), .int p0]) (n := 2) (Nat.le_of_ble_eq_true rfl)
  rw [hav]
  rw [lg_entry_eq]
  generalize (lg_sl ([.ref (g 0), .int p0]) ++ List.replicate (2 - (lg_sl ([.ref (g 0), .int p0])).length) Slot.unset).toArray = ls at hl ⊢
  have hl : lv_has ls 2 [(0, .ref (g 0)), (1, .int p0)] := hl
  rw [← hav]
  generalize hQ : MQ below _ _ _ _ _ _ = Q
  show W p l e rm_X4_count s m args below meth c s.heap [] 0 0 Q (F0 m 0 ls [])
  unfold f_X4_count at hf
  refine lv_iload_n hx hb dX4_count_0 rfl (lv_at hl 1 rfl) ?_
  refine lv_iconst (v := 0) hx hb dX4_count_1 (by decide) ?_
  refine lv_bipush (v := 14) hx hb dX4_count_2 (by decide) ?_
  obtain ⟨o75, ho75, hf⟩ := bd_i hf
  refine cl_i [] [0, 1, 2, 3, 4, 5] [wT g, wS cT g 1 u_now, wV cT g 9 1 u_survey, wH cT g 25 u_history, wX cT g 75 u_text, wK cT g 94 u_kept] hP (va_D_adr hD rfl) hA hS (va_runS (As := [.int p0, .int ((0 : Int32)), .int ((14 : Int32))]) (rest := []) ⟨hx, hb, hml, hown, hts⟩ (c_X4_isWithin l D cT g  fu  p0 ((0 : Int32)) ((14 : Int32)) o75 ho75 _) (va_cwS 3 hts gX4_count_X4_isWithin rfl rfl rfl (by decide +kernel) ⟨Nat.le_of_ble_eq_true rfl, Nat.le_of_ble_eq_true rfl⟩) ⟨PRE_blind, PRE_ok [] (by decide) hP (va_D_adr hD rfl) hA hS hK hN hZ⟩ rfl rfl hl.1 rfl (lv_room (Nat.le_of_ble_eq_true rfl)) dX4_count_4 ⟨Nat.le_of_ble_eq_true rfl, Nat.le_of_ble_eq_true rfl⟩) rfl 6 rfl (by decide) (by decide) (fun H locs hP hS => ?_)
  refine lv_if_ne (tgt := 13) hx hb dX4_count_7 (by decide) (fun c76 => ?_) (fun c76 => ?_)
  · replace hf := it_t hf c76
    refine lv_iload_n hx hb dX4_count_13 rfl (lv_at hl 1 rfl) ?_
    refine lv_iconst (v := 1) hx hb dX4_count_14 (by decide) ?_
    obtain ⟨K36_113, eK36_113, hf⟩ := jn_i hf
    have hK36_113 : ∀  (H : Heap) (locs : List Loc) (ls : Array Slot), K36_113  = some o → va_P D vwCl (List.flatten [wT g, wS cT g 1 u_now, wV cT g 9 1 u_survey, wH cT g 25 u_history, wX cT g 75 u_text, wK cT g 94 u_kept]) H → va_S A s.heap H locs → lv_has ls 2 [(0, .ref (g 0)), (1, .int p0)] → W p l e rm_X4_count s m args below meth c H locs 0 0 Q (F0 m 36 ls []) := by
      intro  H locs ls hf hP hS hl
      rw [eK36_113] at hf
      refine lv_iload_n hx hb dX4_count_36 rfl (lv_at hl 1 rfl) ?_
      by_cases c114 : p0 = (0 : Int32)
      · replace hf := it_t hf c114
        refine lv_tableIn (off := 71) (tgt := 108) hx hb dX4_count_37 (by rw [c114]; decide) (by rw [c114]; decide) (by rw [c114]; rfl) (by decide) ?_
        refine lv_aload_n hx hb dX4_count_108 rfl (lv_at hl 0 rfl) ?_
        refine va_get (ci := 4) (v := .ref (g 1)) (C := RX4) (T := TX4) (N := 8) hx hb hts iw_X4_count_X4 hown hK hP 0 rfl rfl 0 (by decide) (hts (.fieldLink RX4 10 "BallastTrack" "now" "LBallastTrack$State;") (List.mem_of_getElem? (i := 2) rfl)) (fun _ h9 => h9) rfl dX4_count_109 ?_
        refine va_get (ci := 1) (v := .int (S_sl u_now)) (C := RX1) (T := TX1) (N := 9) hx hb hts iw_X4_count_X1 hown hK hP 1 rfl rfl 0 (by decide) (hts (.fieldLink RX4 58 "BallastTrack$State" "sleepers" "I") (List.mem_of_getElem? (i := 4) rfl)) (fun _ h9 => h9) rfl dX4_count_112 ?_
        refine lv_topi (fun x115 ex115 => ?_)
        replace hf := nm_i hf ex115
        obtain rfl := Option.some.inj hf
        subst hQ
        exact en_i hx hb hr hP hS hlocks dX4_count_115
      replace hf := it_f hf c114
      by_cases c116 : p0 = (1 : Int32)
      · replace hf := it_t hf c116
        refine lv_tableIn (off := 133) (tgt := 170) hx hb dX4_count_37 (by rw [c116]; decide) (by rw [c116]; decide) (by rw [c116]; rfl) (by decide) ?_
        refine lv_aload_n hx hb dX4_count_170 rfl (lv_at hl 0 rfl) ?_
        obtain ⟨o117, ho117, hf⟩ := bd_i hf
        refine cl_i [0, 5] [1, 2, 3, 4] [wT g, wS cT g 1 u_now, wV cT g 9 1 u_survey, wH cT g 25 u_history, wX cT g 75 u_text, wK cT g 94 u_kept] hP (va_D_adr hD rfl) hA hS (va_runV (As := []) (rest := []) ⟨hx, hb, hml, hown, hts⟩ (c_X4_keptMask l D cT g  fu u_kept  o117 ho117 _) (cwV 0 hts gX4_count_X4_keptMask rfl rfl rfl (by decide +kernel) ⟨Nat.le_of_ble_eq_true rfl, Nat.le_of_ble_eq_true rfl⟩) ⟨PRE_blind, va_recv hK hP (ci := 4) (q0 := 0) rfl rfl, PRE_ok [0, 5] (by decide) hP (va_D_adr hD rfl) hA hS hK hN hZ⟩ rfl rfl hl.1 rfl (lv_room (Nat.le_of_ble_eq_true rfl)) dX4_count_171 ⟨Nat.le_of_ble_eq_true rfl, Nat.le_of_ble_eq_true rfl⟩) rfl 6 rfl (by decide) (by decide) (fun H locs hP hS => ?_)
        obtain rfl := Option.some.inj hf
        subst hQ
        exact en_i hx hb hr hP hS hlocks dX4_count_174
      replace hf := it_f hf c116
      by_cases c118 : p0 = (2 : Int32)
      · replace hf := it_t hf c118
        refine lv_tableIn (off := 133) (tgt := 170) hx hb dX4_count_37 (by rw [c118]; decide) (by rw [c118]; decide) (by rw [c118]; rfl) (by decide) ?_
        refine lv_aload_n hx hb dX4_count_170 rfl (lv_at hl 0 rfl) ?_
        obtain ⟨o119, ho119, hf⟩ := bd_i hf
        refine cl_i [0, 5] [1, 2, 3, 4] [wT g, wS cT g 1 u_now, wV cT g 9 1 u_survey, wH cT g 25 u_history, wX cT g 75 u_text, wK cT g 94 u_kept] hP (va_D_adr hD rfl) hA hS (va_runV (As := []) (rest := []) ⟨hx, hb, hml, hown, hts⟩ (c_X4_keptMask l D cT g  fu u_kept  o119 ho119 _) (cwV 0 hts gX4_count_X4_keptMask rfl rfl rfl (by decide +kernel) ⟨Nat.le_of_ble_eq_true rfl, Nat.le_of_ble_eq_true rfl⟩) ⟨PRE_blind, va_recv hK hP (ci := 4) (q0 := 0) rfl rfl, PRE_ok [0, 5] (by decide) hP (va_D_adr hD rfl) hA hS hK hN hZ⟩ rfl rfl hl.1 rfl (lv_room (Nat.le_of_ble_eq_true rfl)) dX4_count_171 ⟨Nat.le_of_ble_eq_true rfl, Nat.le_of_ble_eq_true rfl⟩) rfl 6 rfl (by decide) (by decide) (fun H locs hP hS => ?_)
        obtain rfl := Option.some.inj hf
        subst hQ
        exact en_i hx hb hr hP hS hlocks dX4_count_174
      replace hf := it_f hf c118
      by_cases c120 : p0 = (3 : Int32)
      · replace hf := it_t hf c120
        refine lv_tableIn (off := 133) (tgt := 170) hx hb dX4_count_37 (by rw [c120]; decide) (by rw [c120]; decide) (by rw [c120]; rfl) (by decide) ?_
        refine lv_aload_n hx hb dX4_count_170 rfl (lv_at hl 0 rfl) ?_
        obtain ⟨o121, ho121, hf⟩ := bd_i hf
        refine cl_i [0, 5] [1, 2, 3, 4] [wT g, wS cT g 1 u_now, wV cT g 9 1 u_survey, wH cT g 25 u_history, wX cT g 75 u_text, wK cT g 94 u_kept] hP (va_D_adr hD rfl) hA hS (va_runV (As := []) (rest := []) ⟨hx, hb, hml, hown, hts⟩ (c_X4_keptMask l D cT g  fu u_kept  o121 ho121 _) (cwV 0 hts gX4_count_X4_keptMask rfl rfl rfl (by decide +kernel) ⟨Nat.le_of_ble_eq_true rfl, Nat.le_of_ble_eq_true rfl⟩) ⟨PRE_blind, va_recv hK hP (ci := 4) (q0 := 0) rfl rfl, PRE_ok [0, 5] (by decide) hP (va_D_adr hD rfl) hA hS hK hN hZ⟩ rfl rfl hl.1 rfl (lv_room (Nat.le_of_ble_eq_true rfl)) dX4_count_171 ⟨Nat.le_of_ble_eq_true rfl, Nat.le_of_ble_eq_true rfl⟩) rfl 6 rfl (by decide) (by decide) (fun H locs hP hS => ?_)
        obtain rfl := Option.some.inj hf
        subst hQ
        exact en_i hx hb hr hP hS hlocks dX4_count_174
      replace hf := it_f hf c120
      by_cases c122 : p0 = (4 : Int32)
      · replace hf := it_t hf c122
        refine lv_tableIn (off := 133) (tgt := 170) hx hb dX4_count_37 (by rw [c122]; decide) (by rw [c122]; decide) (by rw [c122]; rfl) (by decide) ?_
        refine lv_aload_n hx hb dX4_count_170 rfl (lv_at hl 0 rfl) ?_
        obtain ⟨o123, ho123, hf⟩ := bd_i hf
        refine cl_i [0, 5] [1, 2, 3, 4] [wT g, wS cT g 1 u_now, wV cT g 9 1 u_survey, wH cT g 25 u_history, wX cT g 75 u_text, wK cT g 94 u_kept] hP (va_D_adr hD rfl) hA hS (va_runV (As := []) (rest := []) ⟨hx, hb, hml, hown, hts⟩ (c_X4_keptMask l D cT g  fu u_kept  o123 ho123 _) (cwV 0 hts gX4_count_X4_keptMask rfl rfl rfl (by decide +kernel) ⟨Nat.le_of_ble_eq_true rfl, Nat.le_of_ble_eq_true rfl⟩) ⟨PRE_blind, va_recv hK hP (ci := 4) (q0 := 0) rfl rfl, PRE_ok [0, 5] (by decide) hP (va_D_adr hD rfl) hA hS hK hN hZ⟩ rfl rfl hl.1 rfl (lv_room (Nat.le_of_ble_eq_true rfl)) dX4_count_171 ⟨Nat.le_of_ble_eq_true rfl, Nat.le_of_ble_eq_true rfl⟩) rfl 6 rfl (by decide) (by decide) (fun H locs hP hS => ?_)
        obtain rfl := Option.some.inj hf
        subst hQ
        exact en_i hx hb hr hP hS hlocks dX4_count_174
      replace hf := it_f hf c122
      by_cases c124 : p0 = (5 : Int32)
      · replace hf := it_t hf c124
        refine lv_tableIn (off := 133) (tgt := 170) hx hb dX4_count_37 (by rw [c124]; decide) (by rw [c124]; decide) (by rw [c124]; rfl) (by decide) ?_
        refine lv_aload_n hx hb dX4_count_170 rfl (lv_at hl 0 rfl) ?_
        obtain ⟨o125, ho125, hf⟩ := bd_i hf
        refine cl_i [0, 5] [1, 2, 3, 4] [wT g, wS cT g 1 u_now, wV cT g 9 1 u_survey, wH cT g 25 u_history, wX cT g 75 u_text, wK cT g 94 u_kept] hP (va_D_adr hD rfl) hA hS (va_runV (As := []) (rest := []) ⟨hx, hb, hml, hown, hts⟩ (c_X4_keptMask l D cT g  fu u_kept  o125 ho125 _) (cwV 0 hts gX4_count_X4_keptMask rfl rfl rfl (by decide +kernel) ⟨Nat.le_of_ble_eq_true rfl, Nat.le_of_ble_eq_true rfl⟩) ⟨PRE_blind, va_recv hK hP (ci := 4) (q0 := 0) rfl rfl, PRE_ok [0, 5] (by decide) hP (va_D_adr hD rfl) hA hS hK hN hZ⟩ rfl rfl hl.1 rfl (lv_room (Nat.le_of_ble_eq_true rfl)) dX4_count_171 ⟨Nat.le_of_ble_eq_true rfl, Nat.le_of_ble_eq_true rfl⟩) rfl 6 rfl (by decide) (by decide) (fun H locs hP hS => ?_)
        obtain rfl := Option.some.inj hf
        subst hQ
        exact en_i hx hb hr hP hS hlocks dX4_count_174
      replace hf := it_f hf c124
      by_cases c126 : p0 = (6 : Int32)
      · replace hf := it_t hf c126
        refine lv_tableIn (off := 133) (tgt := 170) hx hb dX4_count_37 (by rw [c126]; decide) (by rw [c126]; decide) (by rw [c126]; rfl) (by decide) ?_
        refine lv_aload_n hx hb dX4_count_170 rfl (lv_at hl 0 rfl) ?_
        obtain ⟨o127, ho127, hf⟩ := bd_i hf
        refine cl_i [0, 5] [1, 2, 3, 4] [wT g, wS cT g 1 u_now, wV cT g 9 1 u_survey, wH cT g 25 u_history, wX cT g 75 u_text, wK cT g 94 u_kept] hP (va_D_adr hD rfl) hA hS (va_runV (As := []) (rest := []) ⟨hx, hb, hml, hown, hts⟩ (c_X4_keptMask l D cT g  fu u_kept  o127 ho127 _) (cwV 0 hts gX4_count_X4_keptMask rfl rfl rfl (by decide +kernel) ⟨Nat.le_of_ble_eq_true rfl, Nat.le_of_ble_eq_true rfl⟩) ⟨PRE_blind, va_recv hK hP (ci := 4) (q0 := 0) rfl rfl, PRE_ok [0, 5] (by decide) hP (va_D_adr hD rfl) hA hS hK hN hZ⟩ rfl rfl hl.1 rfl (lv_room (Nat.le_of_ble_eq_true rfl)) dX4_count_171 ⟨Nat.le_of_ble_eq_true rfl, Nat.le_of_ble_eq_true rfl⟩) rfl 6 rfl (by decide) (by decide) (fun H locs hP hS => ?_)
        obtain rfl := Option.some.inj hf
        subst hQ
        exact en_i hx hb hr hP hS hlocks dX4_count_174
      replace hf := it_f hf c126
      by_cases c128 : p0 = (7 : Int32)
      · replace hf := it_t hf c128
        refine lv_tableIn (off := 133) (tgt := 170) hx hb dX4_count_37 (by rw [c128]; decide) (by rw [c128]; decide) (by rw [c128]; rfl) (by decide) ?_
        refine lv_aload_n hx hb dX4_count_170 rfl (lv_at hl 0 rfl) ?_
        obtain ⟨o129, ho129, hf⟩ := bd_i hf
        refine cl_i [0, 5] [1, 2, 3, 4] [wT g, wS cT g 1 u_now, wV cT g 9 1 u_survey, wH cT g 25 u_history, wX cT g 75 u_text, wK cT g 94 u_kept] hP (va_D_adr hD rfl) hA hS (va_runV (As := []) (rest := []) ⟨hx, hb, hml, hown, hts⟩ (c_X4_keptMask l D cT g  fu u_kept  o129 ho129 _) (cwV 0 hts gX4_count_X4_keptMask rfl rfl rfl (by decide +kernel) ⟨Nat.le_of_ble_eq_true rfl, Nat.le_of_ble_eq_true rfl⟩) ⟨PRE_blind, va_recv hK hP (ci := 4) (q0 := 0) rfl rfl, PRE_ok [0, 5] (by decide) hP (va_D_adr hD rfl) hA hS hK hN hZ⟩ rfl rfl hl.1 rfl (lv_room (Nat.le_of_ble_eq_true rfl)) dX4_count_171 ⟨Nat.le_of_ble_eq_true rfl, Nat.le_of_ble_eq_true rfl⟩) rfl 6 rfl (by decide) (by decide) (fun H locs hP hS => ?_)
        obtain rfl := Option.some.inj hf
        subst hQ
        exact en_i hx hb hr hP hS hlocks dX4_count_174
      replace hf := it_f hf c128
      by_cases c130 : p0 = (8 : Int32)
      · replace hf := it_t hf c130
        refine lv_tableIn (off := 133) (tgt := 170) hx hb dX4_count_37 (by rw [c130]; decide) (by rw [c130]; decide) (by rw [c130]; rfl) (by decide) ?_
        refine lv_aload_n hx hb dX4_count_170 rfl (lv_at hl 0 rfl) ?_
        obtain ⟨o131, ho131, hf⟩ := bd_i hf
        refine cl_i [0, 5] [1, 2, 3, 4] [wT g, wS cT g 1 u_now, wV cT g 9 1 u_survey, wH cT g 25 u_history, wX cT g 75 u_text, wK cT g 94 u_kept] hP (va_D_adr hD rfl) hA hS (va_runV (As := []) (rest := []) ⟨hx, hb, hml, hown, hts⟩ (c_X4_keptMask l D cT g  fu u_kept  o131 ho131 _) (cwV 0 hts gX4_count_X4_keptMask rfl rfl rfl (by decide +kernel) ⟨Nat.le_of_ble_eq_true rfl, Nat.le_of_ble_eq_true rfl⟩) ⟨PRE_blind, va_recv hK hP (ci := 4) (q0 := 0) rfl rfl, PRE_ok [0, 5] (by decide) hP (va_D_adr hD rfl) hA hS hK hN hZ⟩ rfl rfl hl.1 rfl (lv_room (Nat.le_of_ble_eq_true rfl)) dX4_count_171 ⟨Nat.le_of_ble_eq_true rfl, Nat.le_of_ble_eq_true rfl⟩) rfl 6 rfl (by decide) (by decide) (fun H locs hP hS => ?_)
        obtain rfl := Option.some.inj hf
        subst hQ
        exact en_i hx hb hr hP hS hlocks dX4_count_174
      replace hf := it_f hf c130
      by_cases c132 : p0 = (9 : Int32)
      · replace hf := it_t hf c132
        refine lv_tableIn (off := 79) (tgt := 116) hx hb dX4_count_37 (by rw [c132]; decide) (by rw [c132]; decide) (by rw [c132]; rfl) (by decide) ?_
        refine lv_aload_n hx hb dX4_count_116 rfl (lv_at hl 0 rfl) ?_
        refine va_get (ci := 4) (v := .ref (g 1)) (C := RX4) (T := TX4) (N := 8) hx hb hts iw_X4_count_X4 hown hK hP 0 rfl rfl 0 (by decide) (hts (.fieldLink RX4 10 "BallastTrack" "now" "LBallastTrack$State;") (List.mem_of_getElem? (i := 2) rfl)) (fun _ h9 => h9) rfl dX4_count_117 ?_
        refine va_get (ci := 1) (v := .int (S_jb u_now)) (C := RX1) (T := TX1) (N := 9) hx hb hts iw_X4_count_X1 hown hK hP 1 rfl rfl 1 (by decide) (hts (.fieldLink RX4 119 "BallastTrack$State" "jobs" "I") (List.mem_of_getElem? (i := 5) rfl)) (fun _ h9 => h9) rfl dX4_count_120 ?_
        refine lv_topi (fun x133 ex133 => ?_)
        replace hf := nm_i hf ex133
        obtain rfl := Option.some.inj hf
        subst hQ
        exact en_i hx hb hr hP hS hlocks dX4_count_123
      replace hf := it_f hf c132
      by_cases c134 : p0 = (10 : Int32)
      · replace hf := it_t hf c134
        refine lv_tableIn (off := 87) (tgt := 124) hx hb dX4_count_37 (by rw [c134]; decide) (by rw [c134]; decide) (by rw [c134]; rfl) (by decide) ?_
        refine lv_aload_n hx hb dX4_count_124 rfl (lv_at hl 0 rfl) ?_
        refine va_get (ci := 4) (v := .ref (g 9)) (C := RX4) (T := TX4) (N := 8) hx hb hts iw_X4_count_X4 hown hK hP 0 rfl rfl 1 (by decide) (hts (.fieldLink RX4 21 "BallastTrack" "survey" "LBallastTrack$Survey;") (List.mem_of_getElem? (i := 6) rfl)) (fun _ h9 => h9) rfl dX4_count_125 ?_
        obtain ⟨o135, ho135, hf⟩ := bd_i hf
        refine cl_v [2, 1] [0, 3, 4, 5] [wT g, wS cT g 1 u_now, wV cT g 9 1 o135, wH cT g 25 u_history, wX cT g 75 u_text, wK cT g 94 u_kept] hP (va_D_adr hD rfl) hA hS (va_runV (As := []) (rest := []) ⟨hx, hb, hml, hown, hts⟩ (c_X2_look l D cT g 9 1 fu u_survey u_now  o135 ho135 _) (cwV 0 hts gX4_count_X2_look rfl rfl rfl (by decide +kernel) ⟨Nat.le_of_ble_eq_true rfl, Nat.le_of_ble_eq_true rfl⟩) ⟨PRE_blind, va_recv hK hP (ci := 2) (q0 := 9) rfl rfl, PRE_ok [2, 1] (by decide) hP (va_D_adr hD rfl) hA hS hK hN hZ⟩ rfl rfl hl.1 rfl (lv_room (Nat.le_of_ble_eq_true rfl)) dX4_count_128 ⟨Nat.le_of_ble_eq_true rfl, Nat.le_of_ble_eq_true rfl⟩) rfl 6 rfl (by decide) (by decide) (fun H locs hP hS => ?_)
        refine lv_aload_n hx hb dX4_count_131 rfl (lv_at hl 0 rfl) ?_
        refine va_get (ci := 4) (v := .ref (g 9)) (C := RX4) (T := TX4) (N := 8) hx hb hts iw_X4_count_X4 hown hK hP 0 rfl rfl 1 (by decide) (hts (.fieldLink RX4 21 "BallastTrack" "survey" "LBallastTrack$Survey;") (List.mem_of_getElem? (i := 6) rfl)) (fun _ h9 => h9) rfl dX4_count_132 ?_
        refine va_get (ci := 2) (v := .int (V_hc o135)) (C := RX2) (T := TX2) (N := 8) hx hb hts iw_X4_count_X2 hown hK hP 9 rfl rfl 4 (by decide) (hts (.fieldLink RX4 159 "BallastTrack$Survey" "hangingCount" "I") (List.mem_of_getElem? (i := 7) rfl)) (fun _ h9 => h9) rfl dX4_count_135 ?_
        refine lv_topi (fun x136 ex136 => ?_)
        replace hf := nm_i hf ex136
        obtain rfl := Option.some.inj hf
        subst hQ
        exact en_i hx hb hr hP hS hlocks dX4_count_138
      replace hf := it_f hf c134
      by_cases c137 : p0 = (11 : Int32)
      · replace hf := it_t hf c137
        refine lv_tableIn (off := 102) (tgt := 139) hx hb dX4_count_37 (by rw [c137]; decide) (by rw [c137]; decide) (by rw [c137]; rfl) (by decide) ?_
        refine lv_aload_n hx hb dX4_count_139 rfl (lv_at hl 0 rfl) ?_
        refine va_get (ci := 4) (v := .ref (g 9)) (C := RX4) (T := TX4) (N := 8) hx hb hts iw_X4_count_X4 hown hK hP 0 rfl rfl 1 (by decide) (hts (.fieldLink RX4 21 "BallastTrack" "survey" "LBallastTrack$Survey;") (List.mem_of_getElem? (i := 6) rfl)) (fun _ h9 => h9) rfl dX4_count_140 ?_
        obtain ⟨o138, ho138, hf⟩ := bd_i hf
        refine cl_v [2, 1] [0, 3, 4, 5] [wT g, wS cT g 1 u_now, wV cT g 9 1 o138, wH cT g 25 u_history, wX cT g 75 u_text, wK cT g 94 u_kept] hP (va_D_adr hD rfl) hA hS (va_runV (As := []) (rest := []) ⟨hx, hb, hml, hown, hts⟩ (c_X2_look l D cT g 9 1 fu u_survey u_now  o138 ho138 _) (cwV 0 hts gX4_count_X2_look rfl rfl rfl (by decide +kernel) ⟨Nat.le_of_ble_eq_true rfl, Nat.le_of_ble_eq_true rfl⟩) ⟨PRE_blind, va_recv hK hP (ci := 2) (q0 := 9) rfl rfl, PRE_ok [2, 1] (by decide) hP (va_D_adr hD rfl) hA hS hK hN hZ⟩ rfl rfl hl.1 rfl (lv_room (Nat.le_of_ble_eq_true rfl)) dX4_count_143 ⟨Nat.le_of_ble_eq_true rfl, Nat.le_of_ble_eq_true rfl⟩) rfl 6 rfl (by decide) (by decide) (fun H locs hP hS => ?_)
        refine lv_aload_n hx hb dX4_count_146 rfl (lv_at hl 0 rfl) ?_
        refine va_get (ci := 4) (v := .ref (g 9)) (C := RX4) (T := TX4) (N := 8) hx hb hts iw_X4_count_X4 hown hK hP 0 rfl rfl 1 (by decide) (hts (.fieldLink RX4 21 "BallastTrack" "survey" "LBallastTrack$Survey;") (List.mem_of_getElem? (i := 6) rfl)) (fun _ h9 => h9) rfl dX4_count_147 ?_
        refine va_get (ci := 2) (v := .int (V_od o138)) (C := RX2) (T := TX2) (N := 8) hx hb hts iw_X4_count_X2 hown hK hP 9 rfl rfl 7 (by decide) (hts (.fieldLink RX4 143 "BallastTrack$Survey" "order" "I") (List.mem_of_getElem? (i := 8) rfl)) (fun _ h9 => h9) rfl dX4_count_150 ?_
        refine lv_topi (fun x139 ex139 => ?_)
        replace hf := nm_i hf ex139
        obtain rfl := Option.some.inj hf
        subst hQ
        exact en_i hx hb hr hP hS hlocks dX4_count_153
      replace hf := it_f hf c137
      by_cases c140 : p0 = (12 : Int32)
      · replace hf := it_t hf c140
        refine lv_tableIn (off := 117) (tgt := 154) hx hb dX4_count_37 (by rw [c140]; decide) (by rw [c140]; decide) (by rw [c140]; rfl) (by decide) ?_
        refine lv_aload_n hx hb dX4_count_154 rfl (lv_at hl 0 rfl) ?_
        refine va_get (ci := 4) (v := .ref (g 75)) (C := RX4) (T := TX4) (N := 8) hx hb hts iw_X4_count_X4 hown hK hP 0 rfl rfl 5 (by decide) (hts (.fieldLink RX4 41 "BallastTrack" "text" "LBallastTrack$Text;") (List.mem_of_getElem? (i := 9) rfl)) (fun _ h9 => h9) rfl dX4_count_155 ?_
        refine va_get (ci := 3) (v := .int (X_ln u_text)) (C := RX3) (T := TX3) (N := 4) hx hb hts iw_X4_count_X3 hown hK hP 15 rfl rfl 1 (by decide) (hts (.fieldLink RX4 94 "BallastTrack$Text" "length" "I") (List.mem_of_getElem? (i := 10) rfl)) (fun _ h9 => h9) rfl dX4_count_158 ?_
        refine lv_topi (fun x141 ex141 => ?_)
        replace hf := nm_i hf ex141
        obtain rfl := Option.some.inj hf
        subst hQ
        exact en_i hx hb hr hP hS hlocks dX4_count_161
      replace hf := it_f hf c140
      by_cases c142 : p0 = (13 : Int32)
      · replace hf := it_t hf c142
        refine lv_tableIn (off := 125) (tgt := 162) hx hb dX4_count_37 (by rw [c142]; decide) (by rw [c142]; decide) (by rw [c142]; rfl) (by decide) ?_
        refine lv_aload_n hx hb dX4_count_162 rfl (lv_at hl 0 rfl) ?_
        refine va_get (ci := 4) (v := .ref (g 25)) (C := RX4) (T := TX4) (N := 8) hx hb hts iw_X4_count_X4 hown hK hP 0 rfl rfl 4 (by decide) (hts (.fieldLink RX4 34 "BallastTrack" "history" "LBallastTrack$History;") (List.mem_of_getElem? (i := 11) rfl)) (fun _ h9 => h9) rfl dX4_count_163 ?_
        refine va_get (ci := 0) (v := .int (H_sz u_history)) (C := RX0) (T := TX0) (N := 3) hx hb hts iw_X4_count_X0 hown hK hP 13 rfl rfl 2 (by decide) (hts (.fieldLink RX4 153 "BallastTrack$History" "size" "I") (List.mem_of_getElem? (i := 12) rfl)) (fun _ h9 => h9) rfl dX4_count_166 ?_
        refine lv_topi (fun x143 ex143 => ?_)
        replace hf := nm_i hf ex143
        obtain rfl := Option.some.inj hf
        subst hQ
        exact en_i hx hb hr hP hS hlocks dX4_count_169
      replace hf := it_f hf c142
      refine lv_tableOut (tgt := 170) hx hb dX4_count_37 (sw_out (fun k h1 h2 => by
        rcases (show k = 0 ∨ k = 1 ∨ k = 2 ∨ k = 3 ∨ k = 4 ∨ k = 5 ∨ k = 6 ∨ k = 7 ∨ k = 8 ∨ k = 9 ∨ k = 10 ∨ k = 11 ∨ k = 12 ∨ k = 13 by omega) with rfl | rfl | rfl | rfl | rfl | rfl | rfl | rfl | rfl | rfl | rfl | rfl | rfl | rfl
        · exact c114
        · exact c116
        · exact c118
        · exact c120
        · exact c122
        · exact c124
        · exact c126
        · exact c128
        · exact c130
        · exact c132
        · exact c134
        · exact c137
        · exact c140
        · exact c142)) (by decide) ?_
      refine lv_aload_n hx hb dX4_count_170 rfl (lv_at hl 0 rfl) ?_
      obtain ⟨o144, ho144, hf⟩ := bd_i hf
      refine cl_i [0, 5] [1, 2, 3, 4] [wT g, wS cT g 1 u_now, wV cT g 9 1 u_survey, wH cT g 25 u_history, wX cT g 75 u_text, wK cT g 94 u_kept] hP (va_D_adr hD rfl) hA hS (va_runV (As := []) (rest := []) ⟨hx, hb, hml, hown, hts⟩ (c_X4_keptMask l D cT g  fu u_kept  o144 ho144 _) (cwV 0 hts gX4_count_X4_keptMask rfl rfl rfl (by decide +kernel) ⟨Nat.le_of_ble_eq_true rfl, Nat.le_of_ble_eq_true rfl⟩) ⟨PRE_blind, va_recv hK hP (ci := 4) (q0 := 0) rfl rfl, PRE_ok [0, 5] (by decide) hP (va_D_adr hD rfl) hA hS hK hN hZ⟩ rfl rfl hl.1 rfl (lv_room (Nat.le_of_ble_eq_true rfl)) dX4_count_171 ⟨Nat.le_of_ble_eq_true rfl, Nat.le_of_ble_eq_true rfl⟩) rfl 6 rfl (by decide) (by decide) (fun H locs hP hS => ?_)
      obtain rfl := Option.some.inj hf
      subst hQ
      exact en_i hx hb hr hP hS hlocks dX4_count_174
    clear eK36_113
    refine lv_icmp_lt (tgt := 36) hx hb dX4_count_15 (by decide) (fun c145 => ?_) (fun c145 => ?_)
    · replace hf := it_t hf c145
      exact hK36_113  _ _ _ hf hP hS (lv_sub hl [0, 1] rfl)
    · replace hf := it_f hf c145
      refine lv_iload_n hx hb dX4_count_18 rfl (lv_at hl 1 rfl) ?_
      refine lv_bipush (v := 8) hx hb dX4_count_19 (by decide) ?_
      refine lv_icmp_gt (tgt := 36) hx hb dX4_count_21 (by decide) (fun c146 => ?_) (fun c146 => ?_)
      · replace hf := it_t hf c146
        exact hK36_113  _ _ _ hf hP hS (lv_sub hl [0, 1] rfl)
      · replace hf := it_f hf c146
        refine lv_aload_n hx hb dX4_count_24 rfl (lv_at hl 0 rfl) ?_
        refine va_get (ci := 4) (v := .ref (g 1)) (C := RX4) (T := TX4) (N := 8) hx hb hts iw_X4_count_X4 hown hK hP 0 rfl rfl 0 (by decide) (hts (.fieldLink RX4 10 "BallastTrack" "now" "LBallastTrack$State;") (List.mem_of_getElem? (i := 2) rfl)) (fun _ h9 => h9) rfl dX4_count_25 ?_
        refine va_get (ci := 1) (v := .ref (g (1 + 1))) (C := RX1) (T := TX1) (N := 9) hx hb hts iw_X4_count_X1 hown hK hP 1 rfl rfl 2 (by decide) (hts (.fieldLink RX4 76 "BallastTrack$State" "numbers" "[I") (List.mem_of_getElem? (i := 3) rfl)) (fun _ h9 => h9) rfl dX4_count_28 ?_
        refine lv_iload_n hx hb dX4_count_31 rfl (lv_at hl 1 rfl) ?_
        refine lv_iconst (v := 1) hx hb dX4_count_32 (by decide) ?_
        refine lv_isub hx hb dX4_count_33 ?_
        refine lv_topi (fun x147 ex147 => ?_)
        replace hf := nm_i hf ex147
        obtain ⟨hi148, hf⟩ := ix_i hf
        refine va_iald hx hb hK hP 2 0 rfl rfl hi148 dX4_count_34 ?_
        refine lv_topi (fun x149 ex149 => ?_)
        replace hf := nm_i hf ex149
        obtain rfl := Option.some.inj hf
        subst hQ
        exact en_i hx hb hr hP hS hlocks dX4_count_35
  · replace hf := it_f hf (not_not_intro c76)
    refine lv_ldc (v := -100001) hx hb hown (hts (.constant RX4 57 (-100001)) (List.mem_of_getElem? (i := 1) rfl)) dX4_count_10 ?_
    obtain rfl := Option.some.inj hf
    subst hQ
    exact en_i hx hb hr hP hS hlocks dX4_count_12
theorem iw_X4_surveyed_X2 : ∀ w ∈ u_ws RX2 TX2 8, w ∈ wsX4_surveyed := by decide +kernel
theorem iw_X4_surveyed_X4 : ∀ w ∈ u_ws RX4 TX4 8, w ∈ wsX4_surveyed := by decide +kernel
def f_X4_surveyed (fu : Nat) (u_now : TS) (u_survey : TV) (p0 : Int32) (p1 : Int32) : Option (Int32 × TV) :=
bd (f_X2_look fu u_survey u_now ) fun (o20 : TV) =>
if p1 = (2 : Int32) then (
ix p0 60 <|
nm ((V_he o20) p0.toNatClampNeg) fun (x23 : Int32) =>
some (x23, o20)
)
else if p1 = (3 : Int32) then (
bd (f_X2_voidAt fu o20 u_now p0) fun (o25 : Int32) =>
some (o25, o20)
)
else if p1 = (4 : Int32) then (
ix p0 60 <|
nm ((V_ha o20) p0.toNatClampNeg) fun (x28 : Int32) =>
if x28 = 0 then (
some ((0 : Int32), o20)
)
else (
some ((1 : Int32), o20)
)
)
else if p1 = (5 : Int32) then (
bd (f_X2_findLoads fu o20 u_now ) fun (o31 : TV) =>
ix p0 60 <|
nm ((V_lo o31) p0.toNatClampNeg) fun (x33 : Int32) =>
some (x33, o31)
)
else if p1 = (6 : Int32) then (
bd (f_X2_defectAt fu o20 u_now p0) fun (o35 : Int32) =>
some (o35, o20)
)
else (
bd (f_X2_defectAt fu o20 u_now p0) fun (o36 : Int32) =>
nm (if 0 ≤ o36 then o36 else 0 - o36) fun (x37 : Int32) =>
bd (f_X2_orderOf fu o20 u_now x37) fun (o38 : Int32) =>
some (o38, o20)
)

abbrev rm_X4_surveyed : Room := { frames := 4, cells := 0, slots := 0, locals := 86 }
set_option maxHeartbeats 4000000 in
set_option maxRecDepth 100000 in
theorem c_X4_surveyed (l : Launch) (D : va_G) (cT : Nat → ClassId) (g : Nat → Nat) (fu : Nat) (u_now : TS) (u_survey : TV) (p0 : Int32) (p1 : Int32) (o : Int32 × TV) (hf : f_X4_surveyed fu u_now u_survey p0 p1 = some o) (sz : Nat) : Met l yX4_surveyed wsX4_surveyed rm_X4_surveyed (va_Pc [.ref (g 0), .int p0, .int p1] (PRE D cT sz (List.flatten [wT g, wS cT g 1 u_now, wV cT g 9 1 u_survey]))) (QI D o.1 (List.flatten [wT g, wS cT g 1 u_now, wV cT g 9 1 o.2]) (va_A (List.flatten [wT g, wS cT g 1 u_now, wV cT g 9 1 u_survey]) sz)) 0 0 (va_A (List.flatten [wT g, wS cT g 1 u_now, wV cT g 9 1 u_survey]) sz) := by
  refine Met.ofW (cc := cX4_surveyed) (maxL := 3) (ret := (some .int)) (by decide) rfl ?_
  intro p e s m args below meth c s₁ B0 hml hv
  obtain ⟨hav, hsz, hP, hK, hD, hN, hZ⟩ := hv
  have hx := B0.exec
  have hb := B0.bytes
  have hr := B0.returns
  have hts := atoms_spec (ws := wsX4_surveyed) B0.pre
  have hown : s.vm.findClass RX4 = some m.cls := findClass_of_methodNamed B0.named
  have hlocks := B0.notSynchronized
  subst hsz
  have hD := hD.self (sz := s.heap.size)
  have hA : ∀ q : Nat, s.heap.size ≤ q → va_A (List.flatten [wT g, wS cT g 1 u_now, wV cT g 9 1 u_survey]) s.heap.size q := fun q h => Or.inr h
  generalize va_A (List.flatten [wT g, wS cT g 1 u_now, wV cT g 9 1 u_survey]) s.heap.size = A at hD hZ hA ⊢
  have hS : va_S A s.heap s.heap [] := va_S.rf
  have hl := lv_entry ([.ref (g 0), .int p0, .int p1]) (n := 3) (Nat.le_of_ble_eq_true rfl)
  rw [hav]
  rw [lg_entry_eq]
  generalize (lg_sl ([.ref (g 0), .int p0, .int p1]) ++ List.replicate (3 - (lg_sl ([.ref (g 0), .int p0, .int p1])).length) Slot.unset).toArray = ls at hl ⊢
  have hl : lv_has ls 3 [(0, .ref (g 0)), (1, .int p0), (2, .int p1)] := hl
  rw [← hav]
  generalize hQ : MQ below _ _ _ _ _ _ = Q
  show W p l e rm_X4_surveyed s m args below meth c s.heap [] 0 0 Q (F0 m 0 ls [])
  unfold f_X4_surveyed at hf
  refine lv_aload_n hx hb dX4_surveyed_0 rfl (lv_at hl 0 rfl) ?_
  refine va_get (ci := 4) (v := .ref (g 9)) (C := RX4) (T := TX4) (N := 8) hx hb hts iw_X4_surveyed_X4 hown hK hP 0 rfl rfl 1 (by decide) (hts (.fieldLink RX4 21 "BallastTrack" "survey" "LBallastTrack$Survey;") (List.mem_of_getElem? (i := 1) rfl)) (fun _ h9 => h9) rfl dX4_surveyed_1 ?_
  obtain ⟨o20, ho20, hf⟩ := bd_i hf
  refine cl_v [2, 1] [0] [wT g, wS cT g 1 u_now, wV cT g 9 1 o20] hP (va_D_adr hD rfl) hA hS (va_runV (As := []) (rest := []) ⟨hx, hb, hml, hown, hts⟩ (c_X2_look l D cT g 9 1 fu u_survey u_now  o20 ho20 _) (cwV 0 hts gX4_surveyed_X2_look rfl rfl rfl (by decide +kernel) ⟨Nat.le_of_ble_eq_true rfl, Nat.le_of_ble_eq_true rfl⟩) ⟨PRE_blind, va_recv hK hP (ci := 2) (q0 := 9) rfl rfl, PRE_ok [2, 1] (by decide) hP (va_D_adr hD rfl) hA hS hK hN hZ⟩ rfl rfl hl.1 rfl (lv_room (Nat.le_of_ble_eq_true rfl)) dX4_surveyed_4 ⟨Nat.le_of_ble_eq_true rfl, Nat.le_of_ble_eq_true rfl⟩) rfl 3 rfl (by decide) (by decide) (fun H locs hP hS => ?_)
  refine lv_iload_n hx hb dX4_surveyed_7 rfl (lv_at hl 2 rfl) ?_
  by_cases c21 : p1 = (2 : Int32)
  · replace hf := it_t hf c21
    refine lv_tableIn (off := 36) (tgt := 44) hx hb dX4_surveyed_8 (by rw [c21]; decide) (by rw [c21]; decide) (by rw [c21]; rfl) (by decide) ?_
    refine lv_aload_n hx hb dX4_surveyed_44 rfl (lv_at hl 0 rfl) ?_
    refine va_get (ci := 4) (v := .ref (g 9)) (C := RX4) (T := TX4) (N := 8) hx hb hts iw_X4_surveyed_X4 hown hK hP 0 rfl rfl 1 (by decide) (hts (.fieldLink RX4 21 "BallastTrack" "survey" "LBallastTrack$Survey;") (List.mem_of_getElem? (i := 1) rfl)) (fun _ h9 => h9) rfl dX4_surveyed_45 ?_
    refine va_get (ci := 2) (v := .ref (g (9 + 1))) (C := RX2) (T := TX2) (N := 8) hx hb hts iw_X4_surveyed_X2 hown hK hP 9 rfl rfl 1 (by decide) (hts (.fieldLink RX4 179 "BallastTrack$Survey" "heights" "[I") (List.mem_of_getElem? (i := 2) rfl)) (fun _ h9 => h9) rfl dX4_surveyed_48 ?_
    refine lv_iload_n hx hb dX4_surveyed_51 rfl (lv_at hl 1 rfl) ?_
    obtain ⟨hi22, hf⟩ := ix_i hf
    refine va_iald hx hb hK hP 10 0 rfl rfl hi22 dX4_surveyed_52 ?_
    refine lv_topi (fun x23 ex23 => ?_)
    replace hf := nm_i hf ex23
    obtain rfl := Option.some.inj hf
    subst hQ
    exact en_i hx hb hr hP hS hlocks dX4_surveyed_53
  replace hf := it_f hf c21
  by_cases c24 : p1 = (3 : Int32)
  · replace hf := it_t hf c24
    refine lv_tableIn (off := 46) (tgt := 54) hx hb dX4_surveyed_8 (by rw [c24]; decide) (by rw [c24]; decide) (by rw [c24]; rfl) (by decide) ?_
    refine lv_aload_n hx hb dX4_surveyed_54 rfl (lv_at hl 0 rfl) ?_
    refine va_get (ci := 4) (v := .ref (g 9)) (C := RX4) (T := TX4) (N := 8) hx hb hts iw_X4_surveyed_X4 hown hK hP 0 rfl rfl 1 (by decide) (hts (.fieldLink RX4 21 "BallastTrack" "survey" "LBallastTrack$Survey;") (List.mem_of_getElem? (i := 1) rfl)) (fun _ h9 => h9) rfl dX4_surveyed_55 ?_
    refine lv_iload_n hx hb dX4_surveyed_58 rfl (lv_at hl 1 rfl) ?_
    obtain ⟨o25, ho25, hf⟩ := bd_i hf
    refine cl_i [2, 1] [0] [wT g, wS cT g 1 u_now, wV cT g 9 1 o20] hP (va_D_adr hD rfl) hA hS (va_runV (As := [.int p0]) (rest := []) ⟨hx, hb, hml, hown, hts⟩ (c_X2_voidAt l D cT g 9 1 fu o20 u_now p0 o25 ho25 _) (cwV 1 hts gX4_surveyed_X2_voidAt rfl rfl rfl (by decide +kernel) ⟨Nat.le_of_ble_eq_true rfl, Nat.le_of_ble_eq_true rfl⟩) ⟨PRE_blind, va_recv hK hP (ci := 2) (q0 := 9) rfl rfl, PRE_ok [2, 1] (by decide) hP (va_D_adr hD rfl) hA hS hK hN hZ⟩ rfl rfl hl.1 rfl (lv_room (Nat.le_of_ble_eq_true rfl)) dX4_surveyed_59 ⟨Nat.le_of_ble_eq_true rfl, Nat.le_of_ble_eq_true rfl⟩) rfl 3 rfl (by decide) (by decide) (fun H locs hP hS => ?_)
    obtain rfl := Option.some.inj hf
    subst hQ
    exact en_i hx hb hr hP hS hlocks dX4_surveyed_62
  replace hf := it_f hf c24
  by_cases c26 : p1 = (4 : Int32)
  · replace hf := it_t hf c26
    refine lv_tableIn (off := 55) (tgt := 63) hx hb dX4_surveyed_8 (by rw [c26]; decide) (by rw [c26]; decide) (by rw [c26]; rfl) (by decide) ?_
    refine lv_aload_n hx hb dX4_surveyed_63 rfl (lv_at hl 0 rfl) ?_
    refine va_get (ci := 4) (v := .ref (g 9)) (C := RX4) (T := TX4) (N := 8) hx hb hts iw_X4_surveyed_X4 hown hK hP 0 rfl rfl 1 (by decide) (hts (.fieldLink RX4 21 "BallastTrack" "survey" "LBallastTrack$Survey;") (List.mem_of_getElem? (i := 1) rfl)) (fun _ h9 => h9) rfl dX4_surveyed_64 ?_
    refine va_get (ci := 2) (v := .ref (g (9 + 3))) (C := RX2) (T := TX2) (N := 8) hx hb hts iw_X4_surveyed_X2 hown hK hP 9 rfl rfl 3 (by decide) (hts (.fieldLink RX4 210 "BallastTrack$Survey" "hanging" "[Z") (List.mem_of_getElem? (i := 3) rfl)) (fun _ h9 => h9) rfl dX4_surveyed_67 ?_
    refine lv_iload_n hx hb dX4_surveyed_70 rfl (lv_at hl 1 rfl) ?_
    obtain ⟨hi27, hf⟩ := ix_i hf
    refine va_zald hx hb hK hP 12 1 rfl rfl hi27 dX4_surveyed_71 ?_
    refine lv_topi (fun x28 ex28 => ?_)
    replace hf := nm_i hf ex28
    refine lv_if_eq (tgt := 79) hx hb dX4_surveyed_72 (by decide) (fun c29 => ?_) (fun c29 => ?_)
    · replace hf := it_t hf c29
      refine lv_iconst (v := 0) hx hb dX4_surveyed_79 (by decide) ?_
      obtain rfl := Option.some.inj hf
      subst hQ
      exact en_i hx hb hr hP hS hlocks dX4_surveyed_80
    · replace hf := it_f hf c29
      refine lv_iconst (v := 1) hx hb dX4_surveyed_75 (by decide) ?_
      refine lv_goto (tgt := 80) hx hb dX4_surveyed_76 (by decide) ?_
      obtain rfl := Option.some.inj hf
      subst hQ
      exact en_i hx hb hr hP hS hlocks dX4_surveyed_80
  replace hf := it_f hf c26
  by_cases c30 : p1 = (5 : Int32)
  · replace hf := it_t hf c30
    refine lv_tableIn (off := 73) (tgt := 81) hx hb dX4_surveyed_8 (by rw [c30]; decide) (by rw [c30]; decide) (by rw [c30]; rfl) (by decide) ?_
    refine lv_aload_n hx hb dX4_surveyed_81 rfl (lv_at hl 0 rfl) ?_
    refine va_get (ci := 4) (v := .ref (g 9)) (C := RX4) (T := TX4) (N := 8) hx hb hts iw_X4_surveyed_X4 hown hK hP 0 rfl rfl 1 (by decide) (hts (.fieldLink RX4 21 "BallastTrack" "survey" "LBallastTrack$Survey;") (List.mem_of_getElem? (i := 1) rfl)) (fun _ h9 => h9) rfl dX4_surveyed_82 ?_
    obtain ⟨o31, ho31, hf⟩ := bd_i hf
    refine cl_v [2, 1] [0] [wT g, wS cT g 1 u_now, wV cT g 9 1 o31] hP (va_D_adr hD rfl) hA hS (va_runV (As := []) (rest := []) ⟨hx, hb, hml, hown, hts⟩ (c_X2_findLoads l D cT g 9 1 fu o20 u_now  o31 ho31 _) (cwV 0 hts gX4_surveyed_X2_findLoads rfl rfl rfl (by decide +kernel) ⟨Nat.le_of_ble_eq_true rfl, Nat.le_of_ble_eq_true rfl⟩) ⟨PRE_blind, va_recv hK hP (ci := 2) (q0 := 9) rfl rfl, PRE_ok [2, 1] (by decide) hP (va_D_adr hD rfl) hA hS hK hN hZ⟩ rfl rfl hl.1 rfl (lv_room (Nat.le_of_ble_eq_true rfl)) dX4_surveyed_85 ⟨Nat.le_of_ble_eq_true rfl, Nat.le_of_ble_eq_true rfl⟩) rfl 3 rfl (by decide) (by decide) (fun H locs hP hS => ?_)
    refine lv_aload_n hx hb dX4_surveyed_88 rfl (lv_at hl 0 rfl) ?_
    refine va_get (ci := 4) (v := .ref (g 9)) (C := RX4) (T := TX4) (N := 8) hx hb hts iw_X4_surveyed_X4 hown hK hP 0 rfl rfl 1 (by decide) (hts (.fieldLink RX4 21 "BallastTrack" "survey" "LBallastTrack$Survey;") (List.mem_of_getElem? (i := 1) rfl)) (fun _ h9 => h9) rfl dX4_surveyed_89 ?_
    refine va_get (ci := 2) (v := .ref (g (9 + 2))) (C := RX2) (T := TX2) (N := 8) hx hb hts iw_X4_surveyed_X2 hown hK hP 9 rfl rfl 2 (by decide) (hts (.fieldLink RX4 216 "BallastTrack$Survey" "loads" "[I") (List.mem_of_getElem? (i := 4) rfl)) (fun _ h9 => h9) rfl dX4_surveyed_92 ?_
    refine lv_iload_n hx hb dX4_surveyed_95 rfl (lv_at hl 1 rfl) ?_
    obtain ⟨hi32, hf⟩ := ix_i hf
    refine va_iald hx hb hK hP 11 0 rfl rfl hi32 dX4_surveyed_96 ?_
    refine lv_topi (fun x33 ex33 => ?_)
    replace hf := nm_i hf ex33
    obtain rfl := Option.some.inj hf
    subst hQ
    exact en_i hx hb hr hP hS hlocks dX4_surveyed_97
  replace hf := it_f hf c30
  by_cases c34 : p1 = (6 : Int32)
  · replace hf := it_t hf c34
    refine lv_tableIn (off := 90) (tgt := 98) hx hb dX4_surveyed_8 (by rw [c34]; decide) (by rw [c34]; decide) (by rw [c34]; rfl) (by decide) ?_
    refine lv_aload_n hx hb dX4_surveyed_98 rfl (lv_at hl 0 rfl) ?_
    refine va_get (ci := 4) (v := .ref (g 9)) (C := RX4) (T := TX4) (N := 8) hx hb hts iw_X4_surveyed_X4 hown hK hP 0 rfl rfl 1 (by decide) (hts (.fieldLink RX4 21 "BallastTrack" "survey" "LBallastTrack$Survey;") (List.mem_of_getElem? (i := 1) rfl)) (fun _ h9 => h9) rfl dX4_surveyed_99 ?_
    refine lv_iload_n hx hb dX4_surveyed_102 rfl (lv_at hl 1 rfl) ?_
    obtain ⟨o35, ho35, hf⟩ := bd_i hf
    refine cl_i [2, 1] [0] [wT g, wS cT g 1 u_now, wV cT g 9 1 o20] hP (va_D_adr hD rfl) hA hS (va_runV (As := [.int p0]) (rest := []) ⟨hx, hb, hml, hown, hts⟩ (c_X2_defectAt l D cT g 9 1 fu o20 u_now p0 o35 ho35 _) (cwV 1 hts gX4_surveyed_X2_defectAt rfl rfl rfl (by decide +kernel) ⟨Nat.le_of_ble_eq_true rfl, Nat.le_of_ble_eq_true rfl⟩) ⟨PRE_blind, va_recv hK hP (ci := 2) (q0 := 9) rfl rfl, PRE_ok [2, 1] (by decide) hP (va_D_adr hD rfl) hA hS hK hN hZ⟩ rfl rfl hl.1 rfl (lv_room (Nat.le_of_ble_eq_true rfl)) dX4_surveyed_103 ⟨Nat.le_of_ble_eq_true rfl, Nat.le_of_ble_eq_true rfl⟩) rfl 3 rfl (by decide) (by decide) (fun H locs hP hS => ?_)
    obtain rfl := Option.some.inj hf
    subst hQ
    exact en_i hx hb hr hP hS hlocks dX4_surveyed_106
  replace hf := it_f hf c34
  refine lv_tableOut (tgt := 107) hx hb dX4_surveyed_8 (sw_out (fun k h1 h2 => by
    rcases (show k = 2 ∨ k = 3 ∨ k = 4 ∨ k = 5 ∨ k = 6 by omega) with rfl | rfl | rfl | rfl | rfl
    · exact c21
    · exact c24
    · exact c26
    · exact c30
    · exact c34)) (by decide) ?_
  refine lv_aload_n hx hb dX4_surveyed_107 rfl (lv_at hl 0 rfl) ?_
  refine va_get (ci := 4) (v := .ref (g 9)) (C := RX4) (T := TX4) (N := 8) hx hb hts iw_X4_surveyed_X4 hown hK hP 0 rfl rfl 1 (by decide) (hts (.fieldLink RX4 21 "BallastTrack" "survey" "LBallastTrack$Survey;") (List.mem_of_getElem? (i := 1) rfl)) (fun _ h9 => h9) rfl dX4_surveyed_108 ?_
  refine lv_aload_n hx hb dX4_surveyed_111 rfl (lv_at hl 0 rfl) ?_
  refine va_get (ci := 4) (v := .ref (g 9)) (C := RX4) (T := TX4) (N := 8) hx hb hts iw_X4_surveyed_X4 hown hK hP 0 rfl rfl 1 (by decide) (hts (.fieldLink RX4 21 "BallastTrack" "survey" "LBallastTrack$Survey;") (List.mem_of_getElem? (i := 1) rfl)) (fun _ h9 => h9) rfl dX4_surveyed_112 ?_
  refine lv_iload_n hx hb dX4_surveyed_115 rfl (lv_at hl 1 rfl) ?_
  obtain ⟨o36, ho36, hf⟩ := bd_i hf
  refine cl_i [2, 1] [0] [wT g, wS cT g 1 u_now, wV cT g 9 1 o20] hP (va_D_adr hD rfl) hA hS (va_runV (As := [.int p0]) (rest := [.ref (g 9)]) ⟨hx, hb, hml, hown, hts⟩ (c_X2_defectAt l D cT g 9 1 fu o20 u_now p0 o36 ho36 _) (cwV 1 hts gX4_surveyed_X2_defectAt rfl rfl rfl (by decide +kernel) ⟨Nat.le_of_ble_eq_true rfl, Nat.le_of_ble_eq_true rfl⟩) ⟨PRE_blind, va_recv hK hP (ci := 2) (q0 := 9) rfl rfl, PRE_ok [2, 1] (by decide) hP (va_D_adr hD rfl) hA hS hK hN hZ⟩ rfl rfl hl.1 rfl (lv_room (Nat.le_of_ble_eq_true rfl)) dX4_surveyed_116 ⟨Nat.le_of_ble_eq_true rfl, Nat.le_of_ble_eq_true rfl⟩) rfl 3 rfl (by decide) (by decide) (fun H locs hP hS => ?_)
  refine va_mabs hx hb (by rw [hml]; exact hl.1.symm) hown (hts (.methodLink RX4 222 Lib.Math.abs.name) (List.mem_of_getElem? (i := 5) rfl)) (hts (.static Lib.Math.abs.name) (List.mem_of_getElem? (i := 6) rfl)) (hts (.initialized "java/lang/Math") (List.mem_of_getElem? (i := 7) rfl)) (hts (.code Lib.Math.abs.name Lib.Math.abs.code 1 (some .int)) (List.mem_of_getElem? (i := 8) rfl)) (Nat.le_of_ble_eq_true rfl) (Nat.le_of_ble_eq_true rfl) (Nat.le_of_ble_eq_true rfl) (Nat.le_of_ble_eq_true rfl) dX4_surveyed_119 ?_
  refine lv_topi (fun x37 ex37 => ?_)
  replace hf := nm_i hf ex37
  obtain ⟨o38, ho38, hf⟩ := bd_i hf
  refine cl_i [2, 1] [0] [wT g, wS cT g 1 u_now, wV cT g 9 1 o20] hP (va_D_adr hD rfl) hA hS (va_runV (As := [.int x37]) (rest := []) ⟨hx, hb, hml, hown, hts⟩ (c_X2_orderOf l D cT g 9 1 fu o20 u_now x37 o38 ho38 _) (cwV 1 hts gX4_surveyed_X2_orderOf rfl rfl rfl (by decide +kernel) ⟨Nat.le_of_ble_eq_true rfl, Nat.le_of_ble_eq_true rfl⟩) ⟨PRE_blind, va_recv hK hP (ci := 2) (q0 := 9) rfl rfl, PRE_ok [2, 1] (by decide) hP (va_D_adr hD rfl) hA hS hK hN hZ⟩ rfl rfl hl.1 rfl (lv_room (Nat.le_of_ble_eq_true rfl)) dX4_surveyed_122 ⟨Nat.le_of_ble_eq_true rfl, Nat.le_of_ble_eq_true rfl⟩) rfl 3 rfl (by decide) (by decide) (fun H locs hP hS => ?_)
  obtain rfl := Option.some.inj hf
  subst hQ
  exact en_i hx hb hr hP hS hlocks dX4_surveyed_125
