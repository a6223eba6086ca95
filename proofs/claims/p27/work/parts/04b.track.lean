theorem iw_X1_removeJob_X1 : ∀ w ∈ u_ws RX1 TX1 9, w ∈ wsX1_removeJob := by decide +kernel
def f_X1_removeJob (fu : Nat) (u_st : TS) (p0 : Int32) : Option (TS) :=
nm (p0 + (1 : Int32)) fun (x12 : Int32) =>
nm (x12 * (4 : Int32)) fun (x13 : Int32) =>
nm (p0 * (4 : Int32)) fun (x14 : Int32) =>
nm (S_jb u_st) fun (x15 : Int32) =>
nm (x15 * (4 : Int32)) fun (x16 : Int32) =>
nm (x16 - x13) fun (x17 : Int32) =>
rq (cpk x13 x14 x17 24 24) <|
nm (S_jr_ u_st (va_cpy (S_jr u_st) (S_jr u_st) x13.toNatClampNeg x14.toNatClampNeg x17.toNatClampNeg)) fun (u19 : TS) =>
nm (S_jb u19) fun (x20 : Int32) =>
nm (x20 - (1 : Int32)) fun (x21 : Int32) =>
nm (S_jb_ u19 x21) fun (u22 : TS) =>
some (u22)

abbrev rm_X1_removeJob : Room := { frames := 1, cells := 0, slots := 0, locals := 60 }
set_option maxHeartbeats 4000000 in
set_option maxRecDepth 100000 in
theorem c_X1_removeJob (l : Launch) (D : va_G) (cT : Nat → ClassId) (g : Nat → Nat) (b : Nat) (fu : Nat) (u_st : TS) (p0 : Int32) (o : TS) (hf : f_X1_removeJob fu u_st p0 = some o) (sz : Nat) : Met l yX1_removeJob wsX1_removeJob rm_X1_removeJob (va_Pc [.ref (g b), .int p0] (PRE D cT sz (List.flatten [wS cT g b u_st]))) (QV D (List.flatten [wS cT g b o]) (va_A (List.flatten [wS cT g b u_st]) sz)) 0 0 (va_A (List.flatten [wS cT g b u_st]) sz) := by
  refine Met.ofW (cc := cX1_removeJob) (maxL := 3) (ret := none) (by decide) rfl ?_
  intro p e s m args below meth c s₁ B0 hml hv
  obtain ⟨hav, hsz, hP, hK, hD, hN, hZ⟩ := hv
  have hx := B0.exec
  have hb := B0.bytes
  have hr := B0.returns
  have hts := atoms_spec (ws := wsX1_removeJob) B0.pre
  have hown : s.vm.findClass RX1 = some m.cls := findClass_of_methodNamed B0.named
  have hlocks := B0.notSynchronized
  subst hsz
  have hD := hD.self (sz := s.heap.size)
  have hA : ∀ q : Nat, s.heap.size ≤ q → va_A (List.flatten [wS cT g b u_st]) s.heap.size q := fun q h => Or.inr h
  generalize va_A (List.flatten [wS cT g b u_st]) s.heap.size = A at hD hZ hA ⊢
  have hS : va_S A s.heap s.heap [] := va_S.rf
  have hl := lv_entry ([.ref (g b), .int p0]) (n := 3) (Nat.le_of_ble_eq_true rfl)
  rw [hav]
  rw [lg_entry_eq]
  generalize (lg_sl ([.ref (g b), .int p0]) ++ List.replicate (3 - (lg_sl ([.ref (g b), .int p0])).length) Slot.unset).toArray = ls at hl ⊢
  have hl : lv_has ls 3 [(0, .ref (g b)), (1, .int p0)] := hl
  rw [← hav]
  generalize hQ : MQ below _ _ _ _ _ _ = Q
  show W p l e rm_X1_removeJob s m args below meth c s.heap [] 0 0 Q (F0 m 0 ls [])
  unfold f_X1_removeJob at hf
  refine lv_iload_n hx hb dX1_removeJob_0 rfl (lv_at hl 1 rfl) ?_
  refine lv_iconst (v := 1) hx hb dX1_removeJob_1 (by decide) ?_
  refine lv_iadd hx hb dX1_removeJob_2 ?_
  refine lv_topi (fun x12 ex12 => ?_)
  replace hf := nm_i hf ex12
  refine lv_iconst (v := 4) hx hb dX1_removeJob_3 (by decide) ?_
  refine lv_imul hx hb dX1_removeJob_4 ?_
  refine lv_topi (fun x13 ex13 => ?_)
  replace hf := nm_i hf ex13
  refine lv_istore_n (lv' := [(2, .int x13), (0, .ref (g b)), (1, .int p0)]) hx hb dX1_removeJob_5 rfl hl (by decide) rfl (fun ls hl => ?_)
  refine lv_aload_n hx hb dX1_removeJob_6 rfl (lv_at hl 1 rfl) ?_
  refine va_get (ci := 1) (v := .ref (g (b + 6))) (C := RX1) (T := TX1) (N := 9) hx hb hts iw_X1_removeJob_X1 hown hK hP 0 rfl rfl 7 (by decide) (hts (.fieldLink RX1 34 "BallastTrack$State" "jobRows" "[I") (List.mem_of_getElem? (i := 1) rfl)) (fun _ h9 => h9) rfl dX1_removeJob_7 ?_
  refine lv_iload_n hx hb dX1_removeJob_10 rfl (lv_at hl 0 rfl) ?_
  refine lv_aload_n hx hb dX1_removeJob_11 rfl (lv_at hl 1 rfl) ?_
  refine va_get (ci := 1) (v := .ref (g (b + 6))) (C := RX1) (T := TX1) (N := 9) hx hb hts iw_X1_removeJob_X1 hown hK hP 0 rfl rfl 7 (by decide) (hts (.fieldLink RX1 34 "BallastTrack$State" "jobRows" "[I") (List.mem_of_getElem? (i := 1) rfl)) (fun _ h9 => h9) rfl dX1_removeJob_12 ?_
  refine lv_iload_n hx hb dX1_removeJob_15 rfl (lv_at hl 2 rfl) ?_
  refine lv_iconst (v := 4) hx hb dX1_removeJob_16 (by decide) ?_
  refine lv_imul hx hb dX1_removeJob_17 ?_
  refine lv_topi (fun x14 ex14 => ?_)
  replace hf := nm_i hf ex14
  refine lv_aload_n hx hb dX1_removeJob_18 rfl (lv_at hl 1 rfl) ?_
  refine va_get (ci := 1) (v := .int (S_jb u_st)) (C := RX1) (T := TX1) (N := 9) hx hb hts iw_X1_removeJob_X1 hown hK hP 0 rfl rfl 1 (by decide) (hts (.fieldLink RX1 15 "BallastTrack$State" "jobs" "I") (List.mem_of_getElem? (i := 2) rfl)) (fun _ h9 => h9) rfl dX1_removeJob_19 ?_
  refine lv_topi (fun x15 ex15 => ?_)
  replace hf := nm_i hf ex15
  refine lv_iconst (v := 4) hx hb dX1_removeJob_22 (by decide) ?_
  refine lv_imul hx hb dX1_removeJob_23 ?_
  refine lv_topi (fun x16 ex16 => ?_)
  replace hf := nm_i hf ex16
  refine lv_iload_n hx hb dX1_removeJob_24 rfl (lv_at hl 0 rfl) ?_
  refine lv_isub hx hb dX1_removeJob_25 ?_
  refine lv_topi (fun x17 ex17 => ?_)
  replace hf := nm_i hf ex17
  obtain ⟨hq18, hf⟩ := rq_i hf
  obtain ⟨hq181, hq182, hq183, hq184, hq185⟩ := cpk_i hq18
  refine va_copyi hx hb (by rw [hml]; exact hl.1.symm) hown (hts (.methodLink RX1 43 arraycopyName) (List.mem_of_getElem? (i := 3) rfl)) (hts (.native arraycopyName) (List.mem_of_getElem? (i := 4) rfl)) (hts (.static arraycopyName) (List.mem_of_getElem? (i := 5) rfl)) (hts (.initialized "java/lang/System") (List.mem_of_getElem? (i := 6) rfl)) hK hP (va_D_adr hD rfl) hS 6 6 0 0 (ty := .int) rfl rfl rfl rfl rfl hq181 hq182 hq183 hq184 hq185 (fun _ _ => rfl) (Nat.le_of_ble_eq_true rfl) (Nat.le_of_ble_eq_true rfl) dX1_removeJob_26 (fun H locs hP _ hS => ?_)
  obtain ⟨u19, eu19⟩ : ∃ z : TS, z = S_jr_ u_st (va_cpy (S_jr u_st) (S_jr u_st) x13.toNatClampNeg x14.toNatClampNeg x17.toNatClampNeg) := ⟨_, rfl⟩
  replace hf := nm_i hf eu19
  have hP : va_P D vwCl (List.flatten [wS cT g b u19]) H := by rw [eu19]; exact hP
  refine lv_aload_n hx hb dX1_removeJob_29 rfl (lv_at hl 1 rfl) ?_
  refine lv_dup hx hb dX1_removeJob_30 rfl ?_
  refine va_get (ci := 1) (v := .int (S_jb u19)) (C := RX1) (T := TX1) (N := 9) hx hb hts iw_X1_removeJob_X1 hown hK hP 0 rfl rfl 1 (by decide) (hts (.fieldLink RX1 15 "BallastTrack$State" "jobs" "I") (List.mem_of_getElem? (i := 2) rfl)) (fun _ h9 => h9) rfl dX1_removeJob_31 ?_
  refine lv_topi (fun x20 ex20 => ?_)
  replace hf := nm_i hf ex20
  refine lv_iconst (v := 1) hx hb dX1_removeJob_34 (by decide) ?_
  refine lv_isub hx hb dX1_removeJob_35 ?_
  refine lv_topi (fun x21 ex21 => ?_)
  replace hf := nm_i hf ex21
  refine va_put (ci := 1) (v := .int x21) (ty := .int) (C := RX1) (T := TX1) (N := 9) hx hb hts iw_X1_removeJob_X1 tyX1 tyX1_ok nmX1 hown hK hP (va_D_adr hD rfl) hS 0 rfl rfl 1 (by decide) (hts (.fieldLink RX1 15 "BallastTrack$State" "jobs" "I") (List.mem_of_getElem? (i := 2) rfl)) (fun _ h9 => h9) rfl (by decide +kernel) rfl rfl (Nat.le_of_ble_eq_true rfl) dX1_removeJob_36 (fun H locs hP _ hS => ?_)
  obtain ⟨u22, eu22⟩ : ∃ z : TS, z = S_jb_ u19 x21 := ⟨_, rfl⟩
  replace hf := nm_i hf eu22
  have hP : va_P D vwCl (List.flatten [wS cT g b u22]) H := by rw [eu22]; exact hP
  obtain rfl := Option.some.inj hf
  subst hQ
  exact en_v hx hb hr hP hS hlocks dX1_removeJob_39
theorem iw_X1_goOn_X1 : ∀ w ∈ u_ws RX1 TX1 9, w ∈ wsX1_goOn := by decide +kernel
def f_X1_goOn (fu : Nat) (u_st : TS)  : Option (TS) :=
nm (S_jr u_st 3) fun (x8 : Int32) =>
nm (S_jr u_st 1) fun (x9 : Int32) =>
if x9 ≤ x8 then (
bd (f_X1_removeJob fu u_st ((0 : Int32))) fun (o11 : TS) =>
some (o11)
)
else (
nm (S_jr u_st 3) fun (x12 : Int32) =>
nm (x12 + (1 : Int32)) fun (x13 : Int32) =>
nm (S_jr_ u_st (upd (S_jr u_st) 3 x13)) fun (u14 : TS) =>
some (u14)
)

abbrev rm_X1_goOn : Room := { frames := 2, cells := 0, slots := 0, locals := 82 }
set_option maxHeartbeats 4000000 in
set_option maxRecDepth 100000 in
theorem c_X1_goOn (l : Launch) (D : va_G) (cT : Nat → ClassId) (g : Nat → Nat) (b : Nat) (fu : Nat) (u_st : TS)  (o : TS) (hf : f_X1_goOn fu u_st  = some o) (sz : Nat) : Met l yX1_goOn wsX1_goOn rm_X1_goOn (va_Pc [.ref (g b)] (PRE D cT sz (List.flatten [wS cT g b u_st]))) (QV D (List.flatten [wS cT g b o]) (va_A (List.flatten [wS cT g b u_st]) sz)) 0 0 (va_A (List.flatten [wS cT g b u_st]) sz) := by
  refine Met.ofW (cc := cX1_goOn) (maxL := 1) (ret := none) (by decide) rfl ?_
  intro p e s m args below meth c s₁ B0 hml hv
  obtain ⟨hav, hsz, hP, hK, hD, hN, hZ⟩ := hv
  have hx := B0.exec
  have hb := B0.bytes
  have hr := B0.returns
  have hts := atoms_spec (ws := wsX1_goOn) B0.pre
  have hown : s.vm.findClass RX1 = some m.cls := findClass_of_methodNamed B0.named
  have hlocks := B0.notSynchronized
  subst hsz
  have hD := hD.self (sz := s.heap.size)
  have hA : ∀ q : Nat, s.heap.size ≤ q → va_A (List.flatten [wS cT g b u_st]) s.heap.size q := fun q h => Or.inr h
  generalize va_A (List.flatten [wS cT g b u_st]) s.heap.size = A at hD hZ hA ⊢
  have hS : va_S A s.heap s.heap [] := va_S.rf
  have hl := lv_entry ([.ref (g b)]) (n := 1) (Nat.le_of_ble_eq_true rfl)
  rw [hav]
  rw [lg_entry_eq]
  generalize (lg_sl ([.ref (g b)]) ++ List.replicate (1 - (lg_sl ([.ref (g b)])).length) Slot.unset).toArray = ls at hl ⊢
  have hl : lv_has ls 1 [(0, .ref (g b))] := hl
  rw [← hav]
  generalize hQ : MQ below _ _ _ _ _ _ = Q
  show W p l e rm_X1_goOn s m args below meth c s.heap [] 0 0 Q (F0 m 0 ls [])
  unfold f_X1_goOn at hf
  refine lv_aload_n hx hb dX1_goOn_0 rfl (lv_at hl 0 rfl) ?_
  refine va_get (ci := 1) (v := .ref (g (b + 6))) (C := RX1) (T := TX1) (N := 9) hx hb hts iw_X1_goOn_X1 hown hK hP 0 rfl rfl 7 (by decide) (hts (.fieldLink RX1 34 "BallastTrack$State" "jobRows" "[I") (List.mem_of_getElem? (i := 1) rfl)) (fun _ h9 => h9) rfl dX1_goOn_1 ?_
  refine lv_iconst (v := 3) hx hb dX1_goOn_4 (by decide) ?_
  refine va_iald hx hb hK hP 6 0 rfl rfl (by unfold vp_in; decide) dX1_goOn_5 ?_
  refine lv_topi (fun x8 ex8 => ?_)
  replace hf := nm_i hf ex8
  refine lv_aload_n hx hb dX1_goOn_6 rfl (lv_at hl 0 rfl) ?_
  refine va_get (ci := 1) (v := .ref (g (b + 6))) (C := RX1) (T := TX1) (N := 9) hx hb hts iw_X1_goOn_X1 hown hK hP 0 rfl rfl 7 (by decide) (hts (.fieldLink RX1 34 "BallastTrack$State" "jobRows" "[I") (List.mem_of_getElem? (i := 1) rfl)) (fun _ h9 => h9) rfl dX1_goOn_7 ?_
  refine lv_iconst (v := 1) hx hb dX1_goOn_10 (by decide) ?_
  refine va_iald hx hb hK hP 6 0 rfl rfl (by unfold vp_in; decide) dX1_goOn_11 ?_
  refine lv_topi (fun x9 ex9 => ?_)
  replace hf := nm_i hf ex9
  refine lv_icmp_ge (tgt := 28) hx hb dX1_goOn_12 (by decide) (fun c10 => ?_) (fun c10 => ?_)
  · replace hf := it_t hf c10
    refine lv_aload_n hx hb dX1_goOn_28 rfl (lv_at hl 0 rfl) ?_
    refine lv_iconst (v := 0) hx hb dX1_goOn_29 (by decide) ?_
    obtain ⟨o11, ho11, hf⟩ := bd_i hf
    refine cl_v [0] [] [wS cT g b o11] hP (va_D_adr hD rfl) hA hS (va_runV (As := [.int ((0 : Int32))]) (rest := []) ⟨hx, hb, hml, hown, hts⟩ (c_X1_removeJob l D cT g b fu u_st ((0 : Int32)) o11 ho11 _) (cwV 1 hts gX1_goOn_X1_removeJob rfl rfl rfl (by decide +kernel) ⟨Nat.le_of_ble_eq_true rfl, Nat.le_of_ble_eq_true rfl⟩) ⟨PRE_blind, va_recv hK hP (ci := 1) (q0 := 0) rfl rfl, PRE_ok [0] (by decide) hP (va_D_adr hD rfl) hA hS hK hN hZ⟩ rfl rfl hl.1 rfl (lv_room (Nat.le_of_ble_eq_true rfl)) dX1_goOn_30 ⟨Nat.le_of_ble_eq_true rfl, Nat.le_of_ble_eq_true rfl⟩) rfl 1 rfl (by decide) (by decide) (fun H locs hP hS => ?_)
    obtain rfl := Option.some.inj hf
    subst hQ
    exact en_v hx hb hr hP hS hlocks dX1_goOn_33
  · replace hf := it_f hf c10
    refine lv_aload_n hx hb dX1_goOn_15 rfl (lv_at hl 0 rfl) ?_
    refine va_get (ci := 1) (v := .ref (g (b + 6))) (C := RX1) (T := TX1) (N := 9) hx hb hts iw_X1_goOn_X1 hown hK hP 0 rfl rfl 7 (by decide) (hts (.fieldLink RX1 34 "BallastTrack$State" "jobRows" "[I") (List.mem_of_getElem? (i := 1) rfl)) (fun _ h9 => h9) rfl dX1_goOn_16 ?_
    refine lv_iconst (v := 3) hx hb dX1_goOn_19 (by decide) ?_
    refine lv_dup2_11 hx hb dX1_goOn_20 rfl rfl ?_
    refine va_iald hx hb hK hP 6 0 rfl rfl (by unfold vp_in; decide) dX1_goOn_21 ?_
    refine lv_topi (fun x12 ex12 => ?_)
    replace hf := nm_i hf ex12
    refine lv_iconst (v := 1) hx hb dX1_goOn_22 (by decide) ?_
    refine lv_iadd hx hb dX1_goOn_23 ?_
    refine lv_topi (fun x13 ex13 => ?_)
    replace hf := nm_i hf ex13
    refine va_iast hx hb hK hP (va_D_adr hD rfl) hS 6 0 rfl rfl (by unfold vp_in; decide) dX1_goOn_24 (fun H locs hP _ hS => ?_)
    obtain ⟨u14, eu14⟩ : ∃ z : TS, z = S_jr_ u_st (upd (S_jr u_st) 3 x13) := ⟨_, rfl⟩
    replace hf := nm_i hf eu14
    have hP : va_P D vwCl (List.flatten [wS cT g b u14]) H := by rw [eu14]; exact hP
    refine lv_goto (tgt := 33) hx hb dX1_goOn_25 (by decide) ?_
    obtain rfl := Option.some.inj hf
    subst hQ
    exact en_v hx hb hr hP hS hlocks dX1_goOn_33
def f_X4_minutesFor (fu : Nat)  (p0 : Int32) : Option (Int32) :=
nm (p0 + (49 : Int32)) fun (x4 : Int32) =>
nm (x4 / (50 : Int32)) fun (x5 : Int32) =>
nm ((2 : Int32) + x5) fun (x6 : Int32) =>
some (x6)

abbrev rm_X4_minutesFor : Room := { frames := 0, cells := 0, slots := 0, locals := 0 }
set_option maxHeartbeats 4000000 in
set_option maxRecDepth 100000 in
theorem c_X4_minutesFor (l : Launch) (D : va_G) (cT : Nat → ClassId) (g : Nat → Nat) (fu : Nat)  (p0 : Int32) (o : Int32) (hf : f_X4_minutesFor fu  p0 = some o) (sz : Nat) : Met l yX4_minutesFor wsX4_minutesFor rm_X4_minutesFor (va_Pc [.int p0] (PRE D cT sz (List.flatten []))) (QI D o (List.flatten []) (va_A (List.flatten []) sz)) 0 0 (va_A (List.flatten []) sz) := by
  refine Met.ofW (cc := cX4_minutesFor) (maxL := 1) (ret := (some .int)) (by decide) rfl ?_
  intro p e s m args below meth c s₁ B0 hml hv
  obtain ⟨hav, hsz, hP, hK, hD, hN, hZ⟩ := hv
  have hx := B0.exec
  have hb := B0.bytes
  have hr := B0.returns
  have hts := atoms_spec (ws := wsX4_minutesFor) B0.pre
  have hown : s.vm.findClass RX4 = some m.cls := findClass_of_methodNamed B0.named
  have hlocks := B0.notSynchronized
  subst hsz
  have hD := hD.self (sz := s.heap.size)
  have hA : ∀ q : Nat, s.heap.size ≤ q → va_A (List.flatten []) s.heap.size q := fun q h => Or.inr h
  generalize va_A (List.flatten []) s.heap.size = A at hD hZ hA ⊢
  have hS : va_S A s.heap s.heap [] := va_S.rf
  have hl := lv_entry ([.int p0]) (n := 1) (Nat.le_of_ble_eq_true rfl)
  rw [hav]
  rw [lg_entry_eq]
  generalize (lg_sl ([.int p0]) ++ List.replicate (1 - (lg_sl ([.int p0])).length) Slot.unset).toArray = ls at hl ⊢
  have hl : lv_has ls 1 [(0, .int p0)] := hl
  rw [← hav]
  generalize hQ : MQ below _ _ _ _ _ _ = Q
  show W p l e rm_X4_minutesFor s m args below meth c s.heap [] 0 0 Q (F0 m 0 ls [])
  unfold f_X4_minutesFor at hf
  refine lv_iconst (v := 2) hx hb dX4_minutesFor_0 (by decide) ?_
  refine lv_iload_n hx hb dX4_minutesFor_1 rfl (lv_at hl 0 rfl) ?_
  refine lv_bipush (v := 49) hx hb dX4_minutesFor_2 (by decide) ?_
  refine lv_iadd hx hb dX4_minutesFor_4 ?_
  refine lv_topi (fun x4 ex4 => ?_)
  replace hf := nm_i hf ex4
  refine lv_bipush (v := 50) hx hb dX4_minutesFor_5 (by decide) ?_
  refine lv_idiv hx hb dX4_minutesFor_7 (by decide) ?_
  refine lv_topi (fun x5 ex5 => ?_)
  replace hf := nm_i hf ex5
  refine lv_iadd hx hb dX4_minutesFor_8 ?_
  refine lv_topi (fun x6 ex6 => ?_)
  replace hf := nm_i hf ex6
  obtain rfl := Option.some.inj hf
  subst hQ
  exact en_i hx hb hr hP hS hlocks dX4_minutesFor_9
theorem iw_X1_tamp_X1 : ∀ w ∈ u_ws RX1 TX1 9, w ∈ wsX1_tamp := by decide +kernel
def lb_X1_tamp_7 (fu : Nat)  (rec : Int32 → Int32 → Int32 → TS → Option (Int32 × Int32 × TS)) (v72 : Int32) (v73 : Int32) (v74 : Int32) (u75 : TS) : Option (Int32 × Int32 × TS) :=
if (360 : Int32) ≤ v74 then (
some (v72, v73, u75)
)
else (
nm (S_jb u75) fun (x79 : Int32) =>
if x79 ≤ 0 then (
some (v72, v73, u75)
)
else (
bd (f_X1_jobValue fu u75 ((0 : Int32)) ((3 : Int32))) fun (o81 : Int32) =>
bd (f_X1_jobValue fu u75 ((0 : Int32)) ((2 : Int32))) fun (o82 : Int32) =>
bd (f_X1_liftOf fu u75 o81 o82) fun (o83 : Int32) =>
jn (fun (x91 : Int32) (x92 : Int32) (u93 : TS) =>
bd (f_X1_goOn fu u93 ) fun (o97 : TS) =>
nm (v74 + (1 : Int32)) fun (x98 : Int32) =>
rec x91 x92 x98 o97
) fun K80_96 =>
if o83 ≤ 0 then (
K80_96 v72 v73 u75
)
else (
bd (f_X4_minutesFor fu  o83) fun (o100 : Int32) =>
if o100 ≤ v72 then (
bd (f_X4_minutesFor fu  o83) fun (o102 : Int32) =>
nm (v72 - o102) fun (x103 : Int32) =>
bd (f_X1_raise fu u75 o81 o83) fun (o104 : TS) =>
nm (v73 + (1 : Int32)) fun (x105 : Int32) =>
K80_96 x103 x105 o104
)
else (
some (v72, v73, u75)
)
)
)
)

def lf_X1_tamp_7 (fu : Nat)  : Nat → Int32 → Int32 → Int32 → TS → Option (Int32 × Int32 × TS) := lq_4 (lb_X1_tamp_7 fu )
def f_X1_tamp (fu : Nat) (u_st : TS) (p0 : Int32) : Option (Int32 × TS) :=
bd (lf_X1_tamp_7 fu  fu p0 ((0 : Int32)) ((0 : Int32)) u_st) fun (z77 : Int32 × Int32 × TS) =>
nm (S_ac z77.2.2 3) fun (x106 : Int32) =>
nm (p0 - z77.1) fun (x107 : Int32) =>
nm (x106 + x107) fun (x108 : Int32) =>
nm (S_ac_ z77.2.2 (upd (S_ac z77.2.2) 3 x108)) fun (u109 : TS) =>
some (z77.2.1, u109)

abbrev rm_X1_tamp : Room := { frames := 3, cells := 0, slots := 0, locals := 102 }
set_option maxHeartbeats 4000000 in
set_option maxRecDepth 100000 in
theorem c_X1_tamp (l : Launch) (D : va_G) (cT : Nat → ClassId) (g : Nat → Nat) (b : Nat) (fu : Nat) (u_st : TS) (p0 : Int32) (o : Int32 × TS) (hf : f_X1_tamp fu u_st p0 = some o) (sz : Nat) : Met l yX1_tamp wsX1_tamp rm_X1_tamp (va_Pc [.ref (g b), .int p0] (PRE D cT sz (List.flatten [wS cT g b u_st]))) (QI D o.1 (List.flatten [wS cT g b o.2]) (va_A (List.flatten [wS cT g b u_st]) sz)) 0 0 (va_A (List.flatten [wS cT g b u_st]) sz) := by
  refine Met.ofW (cc := cX1_tamp) (maxL := 7) (ret := (some .int)) (by decide) rfl ?_
  intro p e s m args below meth c s₁ B0 hml hv
  obtain ⟨hav, hsz, hP, hK, hD, hN, hZ⟩ := hv
  have hx := B0.exec
  have hb := B0.bytes
  have hr := B0.returns
  have hts := atoms_spec (ws := wsX1_tamp) B0.pre
  have hown : s.vm.findClass RX1 = some m.cls := findClass_of_methodNamed B0.named
  have hlocks := B0.notSynchronized
  subst hsz
  have hD := hD.self (sz := s.heap.size)
  have hA : ∀ q : Nat, s.heap.size ≤ q → va_A (List.flatten [wS cT g b u_st]) s.heap.size q := fun q h => Or.inr h
  generalize va_A (List.flatten [wS cT g b u_st]) s.heap.size = A at hD hZ hA ⊢
  have hS : va_S A s.heap s.heap [] := va_S.rf
  have hl := lv_entry ([.ref (g b), .int p0]) (n := 7) (Nat.le_of_ble_eq_true rfl)
  rw [hav]
  rw [lg_entry_eq]
  generalize (lg_sl ([.ref (g b), .int p0]) ++ List.replicate (7 - (lg_sl ([.ref (g b), .int p0])).length) Slot.unset).toArray = ls at hl ⊢
  have hl : lv_has ls 7 [(0, .ref (g b)), (1, .int p0)] := hl
  rw [← hav]
  generalize hQ : MQ below _ _ _ _ _ _ = Q
  show W p l e rm_X1_tamp s m args below meth c s.heap [] 0 0 Q (F0 m 0 ls [])
  unfold f_X1_tamp at hf
  refine lv_iload_n hx hb dX1_tamp_0 rfl (lv_at hl 1 rfl) ?_
  refine lv_istore_n (lv' := [(2, .int p0), (0, .ref (g b)), (1, .int p0)]) hx hb dX1_tamp_1 rfl hl (by decide) rfl (fun ls hl => ?_)
  refine lv_iconst (v := 0) hx hb dX1_tamp_2 (by decide) ?_
  refine lv_istore_n (lv' := [(3, .int ((0 : Int32))), (2, .int p0), (0, .ref (g b)), (1, .int p0)]) hx hb dX1_tamp_3 rfl hl (by decide) rfl (fun ls hl => ?_)
  refine lv_iconst (v := 0) hx hb dX1_tamp_4 (by decide) ?_
  refine lv_istore (lv' := [(4, .int ((0 : Int32))), (3, .int ((0 : Int32))), (2, .int p0), (0, .ref (g b)), (1, .int p0)]) hx hb dX1_tamp_5 hl (by decide) rfl (fun ls hl => ?_)
  obtain ⟨z77, hz77, hf⟩ := bd_i hf
  have hL7 : ∀ (n : Nat) (v72 : Int32) (v73 : Int32) (v74 : Int32) (u75 : TS) (z76 : Int32 × Int32 × TS), lf_X1_tamp_7 fu  n v72 v73 v74 u75 = some z76 → ∀ (H : Heap) (locs : List Loc) (ls : Array Slot), va_P D vwCl (List.flatten [wS cT g b u75]) H → va_S A s.heap H locs → lv_has ls 7 [(0, .ref (g b)), (1, .int p0), (2, .int v72), (3, .int v73), (4, .int v74)] → (∀ (H : Heap) (locs : List Loc) (ls : Array Slot), va_P D vwCl (List.flatten [wS cT g b z76.2.2]) H → va_S A s.heap H locs → lv_has ls 7 [(0, .ref (g b)), (1, .int p0), (2, .int z76.1), (3, .int z76.2.1)] → W p l e rm_X1_tamp s m args below meth c H locs 0 0 Q (F0 m 90 ls [])) → W p l e rm_X1_tamp s m args below meth c H locs 0 0 Q (F0 m 7 ls []) := by
    refine lq_4_ind (F := lb_X1_tamp_7 fu ) (fun rec ih v72 v73 v74 u75 z76 hf H locs ls hP hS hl kx => ?_)
    unfold lb_X1_tamp_7 at hf
    refine lv_iload hx hb dX1_tamp_7 (lv_at hl 4 rfl) ?_
    refine lv_sipush (v := 360) hx hb dX1_tamp_9 (by decide) ?_
    refine lv_icmp_ge (tgt := 90) hx hb dX1_tamp_12 (by decide) (fun c78 => ?_) (fun c78 => ?_)
    · replace hf := it_t hf c78
      obtain rfl := Option.some.inj hf
      exact kx _ _ _ hP hS (lv_sub hl [0, 1, 2, 3] rfl)
    · replace hf := it_f hf c78
      refine lv_aload_n hx hb dX1_tamp_15 rfl (lv_at hl 0 rfl) ?_
      refine va_get (ci := 1) (v := .int (S_jb u75)) (C := RX1) (T := TX1) (N := 9) hx hb hts iw_X1_tamp_X1 hown hK hP 0 rfl rfl 1 (by decide) (hts (.fieldLink RX1 15 "BallastTrack$State" "jobs" "I") (List.mem_of_getElem? (i := 1) rfl)) (fun _ h9 => h9) rfl dX1_tamp_16 ?_
      refine lv_topi (fun x79 ex79 => ?_)
      replace hf := nm_i hf ex79
      refine lv_if_le (tgt := 90) hx hb dX1_tamp_19 (by decide) (fun c80 => ?_) (fun c80 => ?_)
      · replace hf := it_t hf c80
        obtain rfl := Option.some.inj hf
        exact kx _ _ _ hP hS (lv_sub hl [0, 1, 2, 3] rfl)
      · replace hf := it_f hf c80
        refine lv_aload_n hx hb dX1_tamp_22 rfl (lv_at hl 0 rfl) ?_
        refine lv_iconst (v := 0) hx hb dX1_tamp_23 (by decide) ?_
        refine lv_iconst (v := 3) hx hb dX1_tamp_24 (by decide) ?_
        obtain ⟨o81, ho81, hf⟩ := bd_i hf
        refine cl_i [0] [] [wS cT g b u75] hP (va_D_adr hD rfl) hA hS (va_runV (As := [.int ((0 : Int32)), .int ((3 : Int32))]) (rest := []) ⟨hx, hb, hml, hown, hts⟩ (c_X1_jobValue l D cT g b fu u75 ((0 : Int32)) ((3 : Int32)) o81 ho81 _) (cwV 2 hts gX1_tamp_X1_jobValue rfl rfl rfl (by decide +kernel) ⟨Nat.le_of_ble_eq_true rfl, Nat.le_of_ble_eq_true rfl⟩) ⟨PRE_blind, va_recv hK hP (ci := 1) (q0 := 0) rfl rfl, PRE_ok [0] (by decide) hP (va_D_adr hD rfl) hA hS hK hN hZ⟩ rfl rfl hl.1 rfl (lv_room (Nat.le_of_ble_eq_true rfl)) dX1_tamp_25 ⟨Nat.le_of_ble_eq_true rfl, Nat.le_of_ble_eq_true rfl⟩) rfl 1 rfl (by decide) (by decide) (fun H locs hP hS => ?_)
        refine lv_istore (lv' := [(5, .int o81), (0, .ref (g b)), (1, .int p0), (2, .int v72), (3, .int v73), (4, .int v74)]) hx hb dX1_tamp_28 hl (by decide) rfl (fun ls hl => ?_)
        refine lv_aload_n hx hb dX1_tamp_30 rfl (lv_at hl 1 rfl) ?_
        refine lv_iload hx hb dX1_tamp_31 (lv_at hl 0 rfl) ?_
        refine lv_aload_n hx hb dX1_tamp_33 rfl (lv_at hl 1 rfl) ?_
        refine lv_iconst (v := 0) hx hb dX1_tamp_34 (by decide) ?_
        refine lv_iconst (v := 2) hx hb dX1_tamp_35 (by decide) ?_
        obtain ⟨o82, ho82, hf⟩ := bd_i hf
        refine cl_i [0] [] [wS cT g b u75] hP (va_D_adr hD rfl) hA hS (va_runV (As := [.int ((0 : Int32)), .int ((2 : Int32))]) (rest := [.int o81, .ref (g b)]) ⟨hx, hb, hml, hown, hts⟩ (c_X1_jobValue l D cT g b fu u75 ((0 : Int32)) ((2 : Int32)) o82 ho82 _) (cwV 2 hts gX1_tamp_X1_jobValue rfl rfl rfl (by decide +kernel) ⟨Nat.le_of_ble_eq_true rfl, Nat.le_of_ble_eq_true rfl⟩) ⟨PRE_blind, va_recv hK hP (ci := 1) (q0 := 0) rfl rfl, PRE_ok [0] (by decide) hP (va_D_adr hD rfl) hA hS hK hN hZ⟩ rfl rfl hl.1 rfl (lv_room (Nat.le_of_ble_eq_true rfl)) dX1_tamp_36 ⟨Nat.le_of_ble_eq_true rfl, Nat.le_of_ble_eq_true rfl⟩) rfl 1 rfl (by decide) (by decide) (fun H locs hP hS => ?_)
        obtain ⟨o83, ho83, hf⟩ := bd_i hf
        refine cl_i [0] [] [wS cT g b u75] hP (va_D_adr hD rfl) hA hS (va_runV (As := [.int o81, .int o82]) (rest := []) ⟨hx, hb, hml, hown, hts⟩ (c_X1_liftOf l D cT g b fu u75 o81 o82 o83 ho83 _) (cwV 2 hts gX1_tamp_X1_liftOf rfl rfl rfl (by decide +kernel) ⟨Nat.le_of_ble_eq_true rfl, Nat.le_of_ble_eq_true rfl⟩) ⟨PRE_blind, va_recv hK hP (ci := 1) (q0 := 0) rfl rfl, PRE_ok [0] (by decide) hP (va_D_adr hD rfl) hA hS hK hN hZ⟩ rfl rfl hl.1 rfl (lv_room (Nat.le_of_ble_eq_true rfl)) dX1_tamp_39 ⟨Nat.le_of_ble_eq_true rfl, Nat.le_of_ble_eq_true rfl⟩) rfl 1 rfl (by decide) (by decide) (fun H locs hP hS => ?_)
        refine lv_istore (lv' := [(6, .int o83), (5, .int o81), (0, .ref (g b)), (1, .int p0), (2, .int v72), (3, .int v73), (4, .int v74)]) hx hb dX1_tamp_42 hl (by decide) rfl (fun ls hl => ?_)
        refine lv_iload hx hb dX1_tamp_44 (lv_at hl 0 rfl) ?_
        obtain ⟨K80_96, eK80_96, hf⟩ := jn_i hf
        have hK80_96 : ∀ (x91 : Int32) (x92 : Int32) (u93 : TS) (H : Heap) (locs : List Loc) (ls : Array Slot), K80_96 x91 x92 u93 = some z76 → va_P D vwCl (List.flatten [wS cT g b u93]) H → va_S A s.heap H locs → lv_has ls 7 [(0, .ref (g b)), (1, .int p0), (2, .int x91), (3, .int x92), (4, .int v74)] → W p l e rm_X1_tamp s m args below meth c H locs 0 0 Q (F0 m 80 ls []) := by
          intro x91 x92 u93 H locs ls hf hP hS hl
          rw [eK80_96] at hf
          refine lv_aload_n hx hb dX1_tamp_80 rfl (lv_at hl 0 rfl) ?_
          obtain ⟨o97, ho97, hf⟩ := bd_i hf
          refine cl_v [0] [] [wS cT g b o97] hP (va_D_adr hD rfl) hA hS (va_runV (As := []) (rest := []) ⟨hx, hb, hml, hown, hts⟩ (c_X1_goOn l D cT g b fu u93  o97 ho97 _) (cwV 0 hts gX1_tamp_X1_goOn rfl rfl rfl (by decide +kernel) ⟨Nat.le_of_ble_eq_true rfl, Nat.le_of_ble_eq_true rfl⟩) ⟨PRE_blind, va_recv hK hP (ci := 1) (q0 := 0) rfl rfl, PRE_ok [0] (by decide) hP (va_D_adr hD rfl) hA hS hK hN hZ⟩ rfl rfl hl.1 rfl (lv_room (Nat.le_of_ble_eq_true rfl)) dX1_tamp_81 ⟨Nat.le_of_ble_eq_true rfl, Nat.le_of_ble_eq_true rfl⟩) rfl 1 rfl (by decide) (by decide) (fun H locs hP hS => ?_)
          obtain ⟨x98, ex98⟩ : ∃ z : Int32, z = v74 + (1 : Int32) := ⟨_, rfl⟩
          replace hf := nm_i hf ex98
          refine lv_iinc (v := x98) (lv' := [(4, .int x98), (0, .ref (g b)), (1, .int p0), (2, .int x91), (3, .int x92)]) hx hb dX1_tamp_84 hl (k := 4) rfl (by rw [ex98]; rfl) (by decide) rfl (fun ls hl => ?_)
          refine lv_goto (tgt := 7) hx hb dX1_tamp_87 (by decide) ?_
          exact ih _ _ _ _ _ hf _ _ _ hP hS (lv_sub hl [1, 2, 3, 4, 0] rfl) kx
        clear eK80_96
        refine lv_if_le (tgt := 80) hx hb dX1_tamp_46 (by decide) (fun c99 => ?_) (fun c99 => ?_)
        · replace hf := it_t hf c99
          exact hK80_96 _ _ _ _ _ _ hf hP hS (lv_sub hl [2, 3, 4, 5, 6] rfl)
        · replace hf := it_f hf c99
          refine lv_iload hx hb dX1_tamp_49 (lv_at hl 0 rfl) ?_
          obtain ⟨o100, ho100, hf⟩ := bd_i hf
          refine cl_i [] [0] [wS cT g b u75] hP (va_D_adr hD rfl) hA hS (va_runSN (As := [.int o83]) (rest := []) ⟨hx, hb, hml, hown, hts⟩ (c_X4_minutesFor l D cT g  fu  o83 o100 ho100 _) ⟨va_cnB 1 hts gX1_tamp_X4_minutesFor_n75 rfl rfl rfl hN.2.2.1 (hts (.initialized RX4) (List.mem_of_getElem? (i := 20) rfl)) (by decide +kernel) ⟨Nat.le_of_ble_eq_true rfl, Nat.le_of_ble_eq_true rfl⟩, (hts (.static yX4_minutesFor) (List.mem_of_getElem? (i := 19) rfl)), trivial⟩ ⟨PRE_blind, PRE_ok [] (by decide) hP (va_D_adr hD rfl) hA hS hK hN hZ⟩ rfl rfl hl.1 rfl (lv_room (Nat.le_of_ble_eq_true rfl)) dX1_tamp_51 ⟨Nat.le_of_ble_eq_true rfl, Nat.le_of_ble_eq_true rfl⟩) rfl 1 rfl (by decide) (by decide) (fun H locs hP hS => ?_)
          refine lv_iload_n hx hb dX1_tamp_54 rfl (lv_at hl 4 rfl) ?_
          refine lv_icmp_le (tgt := 61) hx hb dX1_tamp_55 (by decide) (fun c101 => ?_) (fun c101 => ?_)
          · replace hf := it_t hf c101
            refine lv_iload_n hx hb dX1_tamp_61 rfl (lv_at hl 4 rfl) ?_
            refine lv_iload hx hb dX1_tamp_62 (lv_at hl 0 rfl) ?_
            obtain ⟨o102, ho102, hf⟩ := bd_i hf
            refine cl_i [] [0] [wS cT g b u75] hP (va_D_adr hD rfl) hA hS (va_runSN (As := [.int o83]) (rest := [.int v72]) ⟨hx, hb, hml, hown, hts⟩ (c_X4_minutesFor l D cT g  fu  o83 o102 ho102 _) ⟨va_cnB 1 hts gX1_tamp_X4_minutesFor_n75 rfl rfl rfl hN.2.2.1 (hts (.initialized RX4) (List.mem_of_getElem? (i := 20) rfl)) (by decide +kernel) ⟨Nat.le_of_ble_eq_true rfl, Nat.le_of_ble_eq_true rfl⟩, (hts (.static yX4_minutesFor) (List.mem_of_getElem? (i := 19) rfl)), trivial⟩ ⟨PRE_blind, PRE_ok [] (by decide) hP (va_D_adr hD rfl) hA hS hK hN hZ⟩ rfl rfl hl.1 rfl (lv_room (Nat.le_of_ble_eq_true rfl)) dX1_tamp_64 ⟨Nat.le_of_ble_eq_true rfl, Nat.le_of_ble_eq_true rfl⟩) rfl 1 rfl (by decide) (by decide) (fun H locs hP hS => ?_)
            refine lv_isub hx hb dX1_tamp_67 ?_
            refine lv_topi (fun x103 ex103 => ?_)
            replace hf := nm_i hf ex103
            refine lv_istore_n (lv' := [(2, .int x103), (6, .int o83), (5, .int o81), (0, .ref (g b)), (1, .int p0), (3, .int v73), (4, .int v74)]) hx hb dX1_tamp_68 rfl hl (by decide) rfl (fun ls hl => ?_)
            refine lv_aload_n hx hb dX1_tamp_69 rfl (lv_at hl 3 rfl) ?_
            refine lv_iload hx hb dX1_tamp_70 (lv_at hl 2 rfl) ?_
            refine lv_iload hx hb dX1_tamp_72 (lv_at hl 1 rfl) ?_
            obtain ⟨o104, ho104, hf⟩ := bd_i hf
            refine cl_v [0] [] [wS cT g b o104] hP (va_D_adr hD rfl) hA hS (va_runV (As := [.int o81, .int o83]) (rest := []) ⟨hx, hb, hml, hown, hts⟩ (c_X1_raise l D cT g b fu u75 o81 o83 o104 ho104 _) (cwV 2 hts gX1_tamp_X1_raise rfl rfl rfl (by decide +kernel) ⟨Nat.le_of_ble_eq_true rfl, Nat.le_of_ble_eq_true rfl⟩) ⟨PRE_blind, va_recv hK hP (ci := 1) (q0 := 0) rfl rfl, PRE_ok [0] (by decide) hP (va_D_adr hD rfl) hA hS hK hN hZ⟩ rfl rfl hl.1 rfl (lv_room (Nat.le_of_ble_eq_true rfl)) dX1_tamp_74 ⟨Nat.le_of_ble_eq_true rfl, Nat.le_of_ble_eq_true rfl⟩) rfl 1 rfl (by decide) (by decide) (fun H locs hP hS => ?_)
            obtain ⟨x105, ex105⟩ : ∃ z : Int32, z = v73 + (1 : Int32) := ⟨_, rfl⟩
            replace hf := nm_i hf ex105
            refine lv_iinc (v := x105) (lv' := [(3, .int x105), (2, .int x103), (6, .int o83), (5, .int o81), (0, .ref (g b)), (1, .int p0), (4, .int v74)]) hx hb dX1_tamp_77 hl (k := 5) rfl (by rw [ex105]; rfl) (by decide) rfl (fun ls hl => ?_)
            exact hK80_96 _ _ _ _ _ _ hf hP hS (lv_sub hl [4, 5, 1, 0, 6] rfl)
          · replace hf := it_f hf c101
            refine lv_goto (tgt := 90) hx hb dX1_tamp_58 (by decide) ?_
            obtain rfl := Option.some.inj hf
            exact kx _ _ _ hP hS (lv_sub hl [2, 3, 4, 5] rfl)
  refine hL7 fu _ _ _ _ _ hz77 _ _ _ hP hS (lv_sub hl [3, 4, 2, 1, 0] rfl) (fun H locs ls hP hS hl => ?_)
  refine lv_aload_n hx hb dX1_tamp_90 rfl (lv_at hl 0 rfl) ?_
  refine va_get (ci := 1) (v := .ref (g (b + 7))) (C := RX1) (T := TX1) (N := 9) hx hb hts iw_X1_tamp_X1 hown hK hP 0 rfl rfl 8 (by decide) (hts (.fieldLink RX1 37 "BallastTrack$State" "accounts" "[I") (List.mem_of_getElem? (i := 2) rfl)) (fun _ h9 => h9) rfl dX1_tamp_91 ?_
  refine lv_iconst (v := 3) hx hb dX1_tamp_94 (by decide) ?_
  refine lv_dup2_11 hx hb dX1_tamp_95 rfl rfl ?_
  refine va_iald hx hb hK hP 7 0 rfl rfl (by unfold vp_in; decide) dX1_tamp_96 ?_
  refine lv_topi (fun x106 ex106 => ?_)
  replace hf := nm_i hf ex106
  refine lv_iload_n hx hb dX1_tamp_97 rfl (lv_at hl 1 rfl) ?_
  refine lv_iload_n hx hb dX1_tamp_98 rfl (lv_at hl 2 rfl) ?_
  refine lv_isub hx hb dX1_tamp_99 ?_
  refine lv_topi (fun x107 ex107 => ?_)
  replace hf := nm_i hf ex107
  refine lv_iadd hx hb dX1_tamp_100 ?_
  refine lv_topi (fun x108 ex108 => ?_)
  replace hf := nm_i hf ex108
  refine va_iast hx hb hK hP (va_D_adr hD rfl) hS 7 0 rfl rfl (by unfold vp_in; decide) dX1_tamp_101 (fun H locs hP _ hS => ?_)
  obtain ⟨u109, eu109⟩ : ∃ z : TS, z = S_ac_ z77.2.2 (upd (S_ac z77.2.2) 3 x108) := ⟨_, rfl⟩
  replace hf := nm_i hf eu109
  have hP : va_P D vwCl (List.flatten [wS cT g b u109]) H := by rw [eu109]; exact hP
  refine lv_iload_n hx hb dX1_tamp_102 rfl (lv_at hl 3 rfl) ?_
  obtain rfl := Option.some.inj hf
  subst hQ
  exact en_i hx hb hr hP hS hlocks dX1_tamp_103
