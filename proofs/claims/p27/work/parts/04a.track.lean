theorem iw_X1_copyFrom_X1 : ∀ w ∈ u_ws RX1 TX1 9, w ∈ wsX1_copyFrom := by decide +kernel
def f_X1_copyFrom (fu : Nat) (u_st : TS) (u_ot : TS)  : Option (TS) :=
nm (S_sl u_ot) fun (x19 : Int32) =>
nm (S_sl_ u_st x19) fun (u20 : TS) =>
nm (S_jb u_ot) fun (x21 : Int32) =>
nm (S_jb_ u20 x21) fun (u22 : TS) =>
rq (cpk ((0 : Int32)) ((0 : Int32)) ((8 : Int32)) 8 8) <|
nm (S_nu_ u22 (va_cpy (S_nu u_ot) (S_nu u22) ((0 : Int32)).toNatClampNeg ((0 : Int32)).toNatClampNeg ((8 : Int32)).toNatClampNeg)) fun (u24 : TS) =>
rq (cpk ((0 : Int32)) ((0 : Int32)) ((60 : Int32)) 60 60) <|
nm (S_lv_ u24 (va_cpy (S_lv u_ot) (S_lv u24) ((0 : Int32)).toNatClampNeg ((0 : Int32)).toNatClampNeg ((60 : Int32)).toNatClampNeg)) fun (u26 : TS) =>
rq (cpk ((0 : Int32)) ((0 : Int32)) ((60 : Int32)) 60 60) <|
nm (S_fo_ u26 (va_cpy (S_fo u_ot) (S_fo u26) ((0 : Int32)).toNatClampNeg ((0 : Int32)).toNatClampNeg ((60 : Int32)).toNatClampNeg)) fun (u28 : TS) =>
rq (cpk ((0 : Int32)) ((0 : Int32)) ((60 : Int32)) 60 60) <|
nm (S_se_ u28 (va_cpy (S_se u_ot) (S_se u28) ((0 : Int32)).toNatClampNeg ((0 : Int32)).toNatClampNeg ((60 : Int32)).toNatClampNeg)) fun (u30 : TS) =>
rq (cpk ((0 : Int32)) ((0 : Int32)) ((60 : Int32)) 60 60) <|
nm (S_li_ u30 (va_cpy (S_li u_ot) (S_li u30) ((0 : Int32)).toNatClampNeg ((0 : Int32)).toNatClampNeg ((60 : Int32)).toNatClampNeg)) fun (u32 : TS) =>
rq (cpk ((0 : Int32)) ((0 : Int32)) ((24 : Int32)) 24 24) <|
nm (S_jr_ u32 (va_cpy (S_jr u_ot) (S_jr u32) ((0 : Int32)).toNatClampNeg ((0 : Int32)).toNatClampNeg ((24 : Int32)).toNatClampNeg)) fun (u34 : TS) =>
rq (cpk ((0 : Int32)) ((0 : Int32)) ((7 : Int32)) 7 7) <|
nm (S_ac_ u34 (va_cpy (S_ac u_ot) (S_ac u34) ((0 : Int32)).toNatClampNeg ((0 : Int32)).toNatClampNeg ((7 : Int32)).toNatClampNeg)) fun (u36 : TS) =>
some (u36)

abbrev rm_X1_copyFrom : Room := { frames := 1, cells := 0, slots := 0, locals := 60 }
set_option maxHeartbeats 4000000 in
set_option maxRecDepth 100000 in
theorem c_X1_copyFrom (l : Launch) (D : va_G) (cT : Nat → ClassId) (g : Nat → Nat) (b b2 : Nat) (fu : Nat) (u_st : TS) (u_ot : TS)  (o : TS) (hf : f_X1_copyFrom fu u_st u_ot  = some o) (sz : Nat) : Met l yX1_copyFrom wsX1_copyFrom rm_X1_copyFrom (va_Pc [.ref (g b), .ref (g b2)] (PRE D cT sz (List.flatten [wS cT g b u_st, wS cT g b2 u_ot]))) (QV D (List.flatten [wS cT g b o, wS cT g b2 u_ot]) (va_A (List.flatten [wS cT g b u_st, wS cT g b2 u_ot]) sz)) 0 0 (va_A (List.flatten [wS cT g b u_st, wS cT g b2 u_ot]) sz) := by
  refine Met.ofW (cc := cX1_copyFrom) (maxL := 2) (ret := none) (by decide) rfl ?_
  intro p e s m args below meth c s₁ B0 hml hv
  obtain ⟨hav, hsz, hP, hK, hD, hN, hZ⟩ := hv
  have hx := B0.exec
  have hb := B0.bytes
  have hr := B0.returns
  have hts := atoms_spec (ws := wsX1_copyFrom) B0.pre
  have hown : s.vm.findClass RX1 = some m.cls := findClass_of_methodNamed B0.named
  have hlocks := B0.notSynchronized
  subst hsz
  have hD := hD.self (sz := s.heap.size)
  have hA : ∀ q : Nat, s.heap.size ≤ q → va_A (List.flatten [wS cT g b u_st, wS cT g b2 u_ot]) s.heap.size q := fun q h => Or.inr h
  generalize va_A (List.flatten [wS cT g b u_st, wS cT g b2 u_ot]) s.heap.size = A at hD hZ hA ⊢
  have hS : va_S A s.heap s.heap [] := va_S.rf
  have hl := lv_entry ([.ref (g b), .ref (g b2)]) (n := 2) (Nat.le_of_ble_eq_true rfl)
  rw [hav]
  rw [lg_entry_eq]
  generalize (lg_sl ([.ref (g b), .ref (g b2)]) ++ List.replicate (2 - (lg_sl ([.ref (g b), .ref (g b2)])).length) Slot.unset).toArray = ls at hl ⊢
  have hl : lv_has ls 2 [(0, .ref (g b)), (1, .ref (g b2))] := hl
  rw [← hav]
  generalize hQ : MQ below _ _ _ _ _ _ = Q
  show W p l e rm_X1_copyFrom s m args below meth c s.heap [] 0 0 Q (F0 m 0 ls [])
  unfold f_X1_copyFrom at hf
  refine lv_aload_n hx hb dX1_copyFrom_0 rfl (lv_at hl 0 rfl) ?_
  refine lv_aload_n hx hb dX1_copyFrom_1 rfl (lv_at hl 1 rfl) ?_
  refine va_get (ci := 1) (v := .int (S_sl u_ot)) (C := RX1) (T := TX1) (N := 9) hx hb hts iw_X1_copyFrom_X1 hown hK hP 8 rfl rfl 0 (by decide) (hts (.fieldLink RX1 9 "BallastTrack$State" "sleepers" "I") (List.mem_of_getElem? (i := 1) rfl)) (fun _ h9 => h9) rfl dX1_copyFrom_2 ?_
  refine lv_topi (fun x19 ex19 => ?_)
  replace hf := nm_i hf ex19
  refine va_put (ci := 1) (v := .int x19) (ty := .int) (C := RX1) (T := TX1) (N := 9) hx hb hts iw_X1_copyFrom_X1 tyX1 tyX1_ok nmX1 hown hK hP (va_D_adr hD rfl) hS 0 rfl rfl 0 (by decide) (hts (.fieldLink RX1 9 "BallastTrack$State" "sleepers" "I") (List.mem_of_getElem? (i := 1) rfl)) (fun _ h9 => h9) rfl (by decide +kernel) rfl rfl (Nat.le_of_ble_eq_true rfl) dX1_copyFrom_5 (fun H locs hP _ hS => ?_)
  obtain ⟨u20, eu20⟩ : ∃ z : TS, z = S_sl_ u_st x19 := ⟨_, rfl⟩
  replace hf := nm_i hf eu20
  have hP : va_P D vwCl (List.flatten [wS cT g b u20, wS cT g b2 u_ot]) H := by rw [eu20]; exact hP
  refine lv_aload_n hx hb dX1_copyFrom_8 rfl (lv_at hl 0 rfl) ?_
  refine lv_aload_n hx hb dX1_copyFrom_9 rfl (lv_at hl 1 rfl) ?_
  refine va_get (ci := 1) (v := .int (S_jb u_ot)) (C := RX1) (T := TX1) (N := 9) hx hb hts iw_X1_copyFrom_X1 hown hK hP 8 rfl rfl 1 (by decide) (hts (.fieldLink RX1 15 "BallastTrack$State" "jobs" "I") (List.mem_of_getElem? (i := 2) rfl)) (fun _ h9 => h9) rfl dX1_copyFrom_10 ?_
  refine lv_topi (fun x21 ex21 => ?_)
  replace hf := nm_i hf ex21
  refine va_put (ci := 1) (v := .int x21) (ty := .int) (C := RX1) (T := TX1) (N := 9) hx hb hts iw_X1_copyFrom_X1 tyX1 tyX1_ok nmX1 hown hK hP (va_D_adr hD rfl) hS 0 rfl rfl 1 (by decide) (hts (.fieldLink RX1 15 "BallastTrack$State" "jobs" "I") (List.mem_of_getElem? (i := 2) rfl)) (fun _ h9 => h9) rfl (by decide +kernel) rfl rfl (Nat.le_of_ble_eq_true rfl) dX1_copyFrom_13 (fun H locs hP _ hS => ?_)
  obtain ⟨u22, eu22⟩ : ∃ z : TS, z = S_jb_ u20 x21 := ⟨_, rfl⟩
  replace hf := nm_i hf eu22
  have hP : va_P D vwCl (List.flatten [wS cT g b u22, wS cT g b2 u_ot]) H := by rw [eu22]; exact hP
  refine lv_aload_n hx hb dX1_copyFrom_16 rfl (lv_at hl 1 rfl) ?_
  refine va_get (ci := 1) (v := .ref (g (b2 + 1))) (C := RX1) (T := TX1) (N := 9) hx hb hts iw_X1_copyFrom_X1 hown hK hP 8 rfl rfl 2 (by decide) (hts (.fieldLink RX1 18 "BallastTrack$State" "numbers" "[I") (List.mem_of_getElem? (i := 3) rfl)) (fun _ h9 => h9) rfl dX1_copyFrom_17 ?_
  refine lv_iconst (v := 0) hx hb dX1_copyFrom_20 (by decide) ?_
  refine lv_aload_n hx hb dX1_copyFrom_21 rfl (lv_at hl 0 rfl) ?_
  refine va_get (ci := 1) (v := .ref (g (b + 1))) (C := RX1) (T := TX1) (N := 9) hx hb hts iw_X1_copyFrom_X1 hown hK hP 0 rfl rfl 2 (by decide) (hts (.fieldLink RX1 18 "BallastTrack$State" "numbers" "[I") (List.mem_of_getElem? (i := 3) rfl)) (fun _ h9 => h9) rfl dX1_copyFrom_22 ?_
  refine lv_iconst (v := 0) hx hb dX1_copyFrom_25 (by decide) ?_
  refine lv_bipush (v := 8) hx hb dX1_copyFrom_26 (by decide) ?_
  obtain ⟨hq23, hf⟩ := rq_i hf
  obtain ⟨hq231, hq232, hq233, hq234, hq235⟩ := cpk_i hq23
  refine va_copyi hx hb (by rw [hml]; exact hl.1.symm) hown (hts (.methodLink RX1 43 arraycopyName) (List.mem_of_getElem? (i := 4) rfl)) (hts (.native arraycopyName) (List.mem_of_getElem? (i := 5) rfl)) (hts (.static arraycopyName) (List.mem_of_getElem? (i := 6) rfl)) (hts (.initialized "java/lang/System") (List.mem_of_getElem? (i := 7) rfl)) hK hP (va_D_adr hD rfl) hS 9 1 0 0 (ty := .int) rfl rfl rfl rfl rfl hq231 hq232 hq233 hq234 hq235 (fun _ _ => rfl) (Nat.le_of_ble_eq_true rfl) (Nat.le_of_ble_eq_true rfl) dX1_copyFrom_28 (fun H locs hP _ hS => ?_)
  obtain ⟨u24, eu24⟩ : ∃ z : TS, z = S_nu_ u22 (va_cpy (S_nu u_ot) (S_nu u22) ((0 : Int32)).toNatClampNeg ((0 : Int32)).toNatClampNeg ((8 : Int32)).toNatClampNeg) := ⟨_, rfl⟩
  replace hf := nm_i hf eu24
  have hP : va_P D vwCl (List.flatten [wS cT g b u24, wS cT g b2 u_ot]) H := by rw [eu24]; exact hP
  refine lv_aload_n hx hb dX1_copyFrom_31 rfl (lv_at hl 1 rfl) ?_
  refine va_get (ci := 1) (v := .ref (g (b2 + 2))) (C := RX1) (T := TX1) (N := 9) hx hb hts iw_X1_copyFrom_X1 hown hK hP 8 rfl rfl 3 (by decide) (hts (.fieldLink RX1 22 "BallastTrack$State" "levels" "[I") (List.mem_of_getElem? (i := 8) rfl)) (fun _ h9 => h9) rfl dX1_copyFrom_32 ?_
  refine lv_iconst (v := 0) hx hb dX1_copyFrom_35 (by decide) ?_
  refine lv_aload_n hx hb dX1_copyFrom_36 rfl (lv_at hl 0 rfl) ?_
  refine va_get (ci := 1) (v := .ref (g (b + 2))) (C := RX1) (T := TX1) (N := 9) hx hb hts iw_X1_copyFrom_X1 hown hK hP 0 rfl rfl 3 (by decide) (hts (.fieldLink RX1 22 "BallastTrack$State" "levels" "[I") (List.mem_of_getElem? (i := 8) rfl)) (fun _ h9 => h9) rfl dX1_copyFrom_37 ?_
  refine lv_iconst (v := 0) hx hb dX1_copyFrom_40 (by decide) ?_
  refine lv_bipush (v := 60) hx hb dX1_copyFrom_41 (by decide) ?_
  obtain ⟨hq25, hf⟩ := rq_i hf
  obtain ⟨hq251, hq252, hq253, hq254, hq255⟩ := cpk_i hq25
  refine va_copyi hx hb (by rw [hml]; exact hl.1.symm) hown (hts (.methodLink RX1 43 arraycopyName) (List.mem_of_getElem? (i := 4) rfl)) (hts (.native arraycopyName) (List.mem_of_getElem? (i := 5) rfl)) (hts (.static arraycopyName) (List.mem_of_getElem? (i := 6) rfl)) (hts (.initialized "java/lang/System") (List.mem_of_getElem? (i := 7) rfl)) hK hP (va_D_adr hD rfl) hS 10 2 0 0 (ty := .int) rfl rfl rfl rfl rfl hq251 hq252 hq253 hq254 hq255 (fun _ _ => rfl) (Nat.le_of_ble_eq_true rfl) (Nat.le_of_ble_eq_true rfl) dX1_copyFrom_43 (fun H locs hP _ hS => ?_)
  obtain ⟨u26, eu26⟩ : ∃ z : TS, z = S_lv_ u24 (va_cpy (S_lv u_ot) (S_lv u24) ((0 : Int32)).toNatClampNeg ((0 : Int32)).toNatClampNeg ((60 : Int32)).toNatClampNeg) := ⟨_, rfl⟩
  replace hf := nm_i hf eu26
  have hP : va_P D vwCl (List.flatten [wS cT g b u26, wS cT g b2 u_ot]) H := by rw [eu26]; exact hP
  refine lv_aload_n hx hb dX1_copyFrom_46 rfl (lv_at hl 1 rfl) ?_
  refine va_get (ci := 1) (v := .ref (g (b2 + 3))) (C := RX1) (T := TX1) (N := 9) hx hb hts iw_X1_copyFrom_X1 hown hK hP 8 rfl rfl 4 (by decide) (hts (.fieldLink RX1 25 "BallastTrack$State" "foulings" "[I") (List.mem_of_getElem? (i := 9) rfl)) (fun _ h9 => h9) rfl dX1_copyFrom_47 ?_
  refine lv_iconst (v := 0) hx hb dX1_copyFrom_50 (by decide) ?_
  refine lv_aload_n hx hb dX1_copyFrom_51 rfl (lv_at hl 0 rfl) ?_
  refine va_get (ci := 1) (v := .ref (g (b + 3))) (C := RX1) (T := TX1) (N := 9) hx hb hts iw_X1_copyFrom_X1 hown hK hP 0 rfl rfl 4 (by decide) (hts (.fieldLink RX1 25 "BallastTrack$State" "foulings" "[I") (List.mem_of_getElem? (i := 9) rfl)) (fun _ h9 => h9) rfl dX1_copyFrom_52 ?_
  refine lv_iconst (v := 0) hx hb dX1_copyFrom_55 (by decide) ?_
  refine lv_bipush (v := 60) hx hb dX1_copyFrom_56 (by decide) ?_
  obtain ⟨hq27, hf⟩ := rq_i hf
  obtain ⟨hq271, hq272, hq273, hq274, hq275⟩ := cpk_i hq27
  refine va_copyi hx hb (by rw [hml]; exact hl.1.symm) hown (hts (.methodLink RX1 43 arraycopyName) (List.mem_of_getElem? (i := 4) rfl)) (hts (.native arraycopyName) (List.mem_of_getElem? (i := 5) rfl)) (hts (.static arraycopyName) (List.mem_of_getElem? (i := 6) rfl)) (hts (.initialized "java/lang/System") (List.mem_of_getElem? (i := 7) rfl)) hK hP (va_D_adr hD rfl) hS 11 3 0 0 (ty := .int) rfl rfl rfl rfl rfl hq271 hq272 hq273 hq274 hq275 (fun _ _ => rfl) (Nat.le_of_ble_eq_true rfl) (Nat.le_of_ble_eq_true rfl) dX1_copyFrom_58 (fun H locs hP _ hS => ?_)
  obtain ⟨u28, eu28⟩ : ∃ z : TS, z = S_fo_ u26 (va_cpy (S_fo u_ot) (S_fo u26) ((0 : Int32)).toNatClampNeg ((0 : Int32)).toNatClampNeg ((60 : Int32)).toNatClampNeg) := ⟨_, rfl⟩
  replace hf := nm_i hf eu28
  have hP : va_P D vwCl (List.flatten [wS cT g b u28, wS cT g b2 u_ot]) H := by rw [eu28]; exact hP
  refine lv_aload_n hx hb dX1_copyFrom_61 rfl (lv_at hl 1 rfl) ?_
  refine va_get (ci := 1) (v := .ref (g (b2 + 4))) (C := RX1) (T := TX1) (N := 9) hx hb hts iw_X1_copyFrom_X1 hown hK hP 8 rfl rfl 5 (by decide) (hts (.fieldLink RX1 28 "BallastTrack$State" "settled" "[I") (List.mem_of_getElem? (i := 10) rfl)) (fun _ h9 => h9) rfl dX1_copyFrom_62 ?_
  refine lv_iconst (v := 0) hx hb dX1_copyFrom_65 (by decide) ?_
  refine lv_aload_n hx hb dX1_copyFrom_66 rfl (lv_at hl 0 rfl) ?_
  refine va_get (ci := 1) (v := .ref (g (b + 4))) (C := RX1) (T := TX1) (N := 9) hx hb hts iw_X1_copyFrom_X1 hown hK hP 0 rfl rfl 5 (by decide) (hts (.fieldLink RX1 28 "BallastTrack$State" "settled" "[I") (List.mem_of_getElem? (i := 10) rfl)) (fun _ h9 => h9) rfl dX1_copyFrom_67 ?_
  refine lv_iconst (v := 0) hx hb dX1_copyFrom_70 (by decide) ?_
  refine lv_bipush (v := 60) hx hb dX1_copyFrom_71 (by decide) ?_
  obtain ⟨hq29, hf⟩ := rq_i hf
  obtain ⟨hq291, hq292, hq293, hq294, hq295⟩ := cpk_i hq29
  refine va_copyi hx hb (by rw [hml]; exact hl.1.symm) hown (hts (.methodLink RX1 43 arraycopyName) (List.mem_of_getElem? (i := 4) rfl)) (hts (.native arraycopyName) (List.mem_of_getElem? (i := 5) rfl)) (hts (.static arraycopyName) (List.mem_of_getElem? (i := 6) rfl)) (hts (.initialized "java/lang/System") (List.mem_of_getElem? (i := 7) rfl)) hK hP (va_D_adr hD rfl) hS 12 4 0 0 (ty := .int) rfl rfl rfl rfl rfl hq291 hq292 hq293 hq294 hq295 (fun _ _ => rfl) (Nat.le_of_ble_eq_true rfl) (Nat.le_of_ble_eq_true rfl) dX1_copyFrom_73 (fun H locs hP _ hS => ?_)
  obtain ⟨u30, eu30⟩ : ∃ z : TS, z = S_se_ u28 (va_cpy (S_se u_ot) (S_se u28) ((0 : Int32)).toNatClampNeg ((0 : Int32)).toNatClampNeg ((60 : Int32)).toNatClampNeg) := ⟨_, rfl⟩
  replace hf := nm_i hf eu30
  have hP : va_P D vwCl (List.flatten [wS cT g b u30, wS cT g b2 u_ot]) H := by rw [eu30]; exact hP
  refine lv_aload_n hx hb dX1_copyFrom_76 rfl (lv_at hl 1 rfl) ?_
  refine va_get (ci := 1) (v := .ref (g (b2 + 5))) (C := RX1) (T := TX1) (N := 9) hx hb hts iw_X1_copyFrom_X1 hown hK hP 8 rfl rfl 6 (by decide) (hts (.fieldLink RX1 31 "BallastTrack$State" "lifted" "[I") (List.mem_of_getElem? (i := 11) rfl)) (fun _ h9 => h9) rfl dX1_copyFrom_77 ?_
  refine lv_iconst (v := 0) hx hb dX1_copyFrom_80 (by decide) ?_
  refine lv_aload_n hx hb dX1_copyFrom_81 rfl (lv_at hl 0 rfl) ?_
  refine va_get (ci := 1) (v := .ref (g (b + 5))) (C := RX1) (T := TX1) (N := 9) hx hb hts iw_X1_copyFrom_X1 hown hK hP 0 rfl rfl 6 (by decide) (hts (.fieldLink RX1 31 "BallastTrack$State" "lifted" "[I") (List.mem_of_getElem? (i := 11) rfl)) (fun _ h9 => h9) rfl dX1_copyFrom_82 ?_
  refine lv_iconst (v := 0) hx hb dX1_copyFrom_85 (by decide) ?_
  refine lv_bipush (v := 60) hx hb dX1_copyFrom_86 (by decide) ?_
  obtain ⟨hq31, hf⟩ := rq_i hf
  obtain ⟨hq311, hq312, hq313, hq314, hq315⟩ := cpk_i hq31
  refine va_copyi hx hb (by rw [hml]; exact hl.1.symm) hown (hts (.methodLink RX1 43 arraycopyName) (List.mem_of_getElem? (i := 4) rfl)) (hts (.native arraycopyName) (List.mem_of_getElem? (i := 5) rfl)) (hts (.static arraycopyName) (List.mem_of_getElem? (i := 6) rfl)) (hts (.initialized "java/lang/System") (List.mem_of_getElem? (i := 7) rfl)) hK hP (va_D_adr hD rfl) hS 13 5 0 0 (ty := .int) rfl rfl rfl rfl rfl hq311 hq312 hq313 hq314 hq315 (fun _ _ => rfl) (Nat.le_of_ble_eq_true rfl) (Nat.le_of_ble_eq_true rfl) dX1_copyFrom_88 (fun H locs hP _ hS => ?_)
  obtain ⟨u32, eu32⟩ : ∃ z : TS, z = S_li_ u30 (va_cpy (S_li u_ot) (S_li u30) ((0 : Int32)).toNatClampNeg ((0 : Int32)).toNatClampNeg ((60 : Int32)).toNatClampNeg) := ⟨_, rfl⟩
  replace hf := nm_i hf eu32
  have hP : va_P D vwCl (List.flatten [wS cT g b u32, wS cT g b2 u_ot]) H := by rw [eu32]; exact hP
  refine lv_aload_n hx hb dX1_copyFrom_91 rfl (lv_at hl 1 rfl) ?_
  refine va_get (ci := 1) (v := .ref (g (b2 + 6))) (C := RX1) (T := TX1) (N := 9) hx hb hts iw_X1_copyFrom_X1 hown hK hP 8 rfl rfl 7 (by decide) (hts (.fieldLink RX1 34 "BallastTrack$State" "jobRows" "[I") (List.mem_of_getElem? (i := 12) rfl)) (fun _ h9 => h9) rfl dX1_copyFrom_92 ?_
  refine lv_iconst (v := 0) hx hb dX1_copyFrom_95 (by decide) ?_
  refine lv_aload_n hx hb dX1_copyFrom_96 rfl (lv_at hl 0 rfl) ?_
  refine va_get (ci := 1) (v := .ref (g (b + 6))) (C := RX1) (T := TX1) (N := 9) hx hb hts iw_X1_copyFrom_X1 hown hK hP 0 rfl rfl 7 (by decide) (hts (.fieldLink RX1 34 "BallastTrack$State" "jobRows" "[I") (List.mem_of_getElem? (i := 12) rfl)) (fun _ h9 => h9) rfl dX1_copyFrom_97 ?_
  refine lv_iconst (v := 0) hx hb dX1_copyFrom_100 (by decide) ?_
  refine lv_bipush (v := 24) hx hb dX1_copyFrom_101 (by decide) ?_
  obtain ⟨hq33, hf⟩ := rq_i hf
  obtain ⟨hq331, hq332, hq333, hq334, hq335⟩ := cpk_i hq33
  refine va_copyi hx hb (by rw [hml]; exact hl.1.symm) hown (hts (.methodLink RX1 43 arraycopyName) (List.mem_of_getElem? (i := 4) rfl)) (hts (.native arraycopyName) (List.mem_of_getElem? (i := 5) rfl)) (hts (.static arraycopyName) (List.mem_of_getElem? (i := 6) rfl)) (hts (.initialized "java/lang/System") (List.mem_of_getElem? (i := 7) rfl)) hK hP (va_D_adr hD rfl) hS 14 6 0 0 (ty := .int) rfl rfl rfl rfl rfl hq331 hq332 hq333 hq334 hq335 (fun _ _ => rfl) (Nat.le_of_ble_eq_true rfl) (Nat.le_of_ble_eq_true rfl) dX1_copyFrom_103 (fun H locs hP _ hS => ?_)
  obtain ⟨u34, eu34⟩ : ∃ z : TS, z = S_jr_ u32 (va_cpy (S_jr u_ot) (S_jr u32) ((0 : Int32)).toNatClampNeg ((0 : Int32)).toNatClampNeg ((24 : Int32)).toNatClampNeg) := ⟨_, rfl⟩
  replace hf := nm_i hf eu34
  have hP : va_P D vwCl (List.flatten [wS cT g b u34, wS cT g b2 u_ot]) H := by rw [eu34]; exact hP
  refine lv_aload_n hx hb dX1_copyFrom_106 rfl (lv_at hl 1 rfl) ?_
  refine va_get (ci := 1) (v := .ref (g (b2 + 7))) (C := RX1) (T := TX1) (N := 9) hx hb hts iw_X1_copyFrom_X1 hown hK hP 8 rfl rfl 8 (by decide) (hts (.fieldLink RX1 37 "BallastTrack$State" "accounts" "[I") (List.mem_of_getElem? (i := 13) rfl)) (fun _ h9 => h9) rfl dX1_copyFrom_107 ?_
  refine lv_iconst (v := 0) hx hb dX1_copyFrom_110 (by decide) ?_
  refine lv_aload_n hx hb dX1_copyFrom_111 rfl (lv_at hl 0 rfl) ?_
  refine va_get (ci := 1) (v := .ref (g (b + 7))) (C := RX1) (T := TX1) (N := 9) hx hb hts iw_X1_copyFrom_X1 hown hK hP 0 rfl rfl 8 (by decide) (hts (.fieldLink RX1 37 "BallastTrack$State" "accounts" "[I") (List.mem_of_getElem? (i := 13) rfl)) (fun _ h9 => h9) rfl dX1_copyFrom_112 ?_
  refine lv_iconst (v := 0) hx hb dX1_copyFrom_115 (by decide) ?_
  refine lv_bipush (v := 7) hx hb dX1_copyFrom_116 (by decide) ?_
  obtain ⟨hq35, hf⟩ := rq_i hf
  obtain ⟨hq351, hq352, hq353, hq354, hq355⟩ := cpk_i hq35
  refine va_copyi hx hb (by rw [hml]; exact hl.1.symm) hown (hts (.methodLink RX1 43 arraycopyName) (List.mem_of_getElem? (i := 4) rfl)) (hts (.native arraycopyName) (List.mem_of_getElem? (i := 5) rfl)) (hts (.static arraycopyName) (List.mem_of_getElem? (i := 6) rfl)) (hts (.initialized "java/lang/System") (List.mem_of_getElem? (i := 7) rfl)) hK hP (va_D_adr hD rfl) hS 15 7 0 0 (ty := .int) rfl rfl rfl rfl rfl hq351 hq352 hq353 hq354 hq355 (fun _ _ => rfl) (Nat.le_of_ble_eq_true rfl) (Nat.le_of_ble_eq_true rfl) dX1_copyFrom_118 (fun H locs hP _ hS => ?_)
  obtain ⟨u36, eu36⟩ : ∃ z : TS, z = S_ac_ u34 (va_cpy (S_ac u_ot) (S_ac u34) ((0 : Int32)).toNatClampNeg ((0 : Int32)).toNatClampNeg ((7 : Int32)).toNatClampNeg) := ⟨_, rfl⟩
  replace hf := nm_i hf eu36
  have hP : va_P D vwCl (List.flatten [wS cT g b u36, wS cT g b2 u_ot]) H := by rw [eu36]; exact hP
  obtain rfl := Option.some.inj hf
  subst hQ
  exact en_v hx hb hr hP hS hlocks dX1_copyFrom_121
def lb_J7_fill_53178_5 (fu : Nat) (p1 : Int32) (na : Nat) (x11 : Int32) (rec : Int32 → (Nat → Int32) → Option ((Nat → Int32))) (v18 : Int32) (u19 : (Nat → Int32)) : Option ((Nat → Int32)) :=
if x11 ≤ v18 then (
some (u19)
)
else (
ix v18 na <|
nm (upd (u19) v18.toNatClampNeg p1) fun (u24 : (Nat → Int32)) =>
nm (v18 + (1 : Int32)) fun (x25 : Int32) =>
rec x25 u24
)

def lf_J7_fill_53178_5 (fu : Nat) (p1 : Int32) (na : Nat) (x11 : Int32) : Nat → Int32 → (Nat → Int32) → Option ((Nat → Int32)) := lq_2 (lb_J7_fill_53178_5 fu p1 na x11)
def f_J7_fill_53178 (fu : Nat) (na : Nat) (u_ar : (Nat → Int32)) (p1 : Int32) : Option ((Nat → Int32)) :=
nm (Int32.ofNat na) fun (x11 : Int32) =>
bd (lf_J7_fill_53178_5 fu p1 na x11 fu ((0 : Int32)) u_ar) fun (z21 : (Nat → Int32)) =>
some (z21)

abbrev rm_J7_fill_53178 : Room := { frames := 0, cells := 0, slots := 0, locals := 0 }
set_option maxHeartbeats 4000000 in
set_option maxRecDepth 100000 in
theorem c_J7_fill_53178 (l : Launch) (D : va_G) (cT : Nat → ClassId) (g : Nat → Nat) (b : Nat) (na : Nat) (fu : Nat) (u_ar : (Nat → Int32)) (p1 : Int32) (o : (Nat → Int32)) (hf : f_J7_fill_53178 fu na u_ar p1 = some o) (sz : Nat) : Met l yJ7_fill_53178 wsJ7_fill_53178 rm_J7_fill_53178 (va_Pc [.ref (g b), .int p1] (PRE D cT sz (List.flatten [wA cT g b na u_ar]))) (QV D (List.flatten [wA cT g b na o]) (va_A (List.flatten [wA cT g b na u_ar]) sz)) 0 0 (va_A (List.flatten [wA cT g b na u_ar]) sz) := by
  refine Met.ofW (cc := cJ7_fill_53178) (maxL := 4) (ret := none) (by decide) rfl ?_
  intro p e s m args below meth c s₁ B0 hml hv
  obtain ⟨hav, hsz, hP, hK, hD, hN, hZ⟩ := hv
  have hx := B0.exec
  have hb := B0.bytes
  have hr := B0.returns
  have hts := atoms_spec (ws := wsJ7_fill_53178) B0.pre
  have hown : s.vm.findClass RJ7 = some m.cls := findClass_of_methodNamed B0.named
  have hlocks := B0.notSynchronized
  subst hsz
  have hD := hD.self (sz := s.heap.size)
  have hA : ∀ q : Nat, s.heap.size ≤ q → va_A (List.flatten [wA cT g b na u_ar]) s.heap.size q := fun q h => Or.inr h
  generalize va_A (List.flatten [wA cT g b na u_ar]) s.heap.size = A at hD hZ hA ⊢
  have hS : va_S A s.heap s.heap [] := va_S.rf
  have hl := lv_entry ([.ref (g b), .int p1]) (n := 4) (Nat.le_of_ble_eq_true rfl)
  rw [hav]
  rw [lg_entry_eq]
  generalize (lg_sl ([.ref (g b), .int p1]) ++ List.replicate (4 - (lg_sl ([.ref (g b), .int p1])).length) Slot.unset).toArray = ls at hl ⊢
  have hl : lv_has ls 4 [(0, .ref (g b)), (1, .int p1)] := hl
  rw [← hav]
  generalize hQ : MQ below _ _ _ _ _ _ = Q
  show W p l e rm_J7_fill_53178 s m args below meth c s.heap [] 0 0 Q (F0 m 0 ls [])
  unfold f_J7_fill_53178 at hf
  refine lv_iconst (v := 0) hx hb dJ7_fill_53178_0 (by decide) ?_
  refine lv_istore_n (lv' := [(2, .int ((0 : Int32))), (0, .ref (g b)), (1, .int p1)]) hx hb dJ7_fill_53178_1 rfl hl (by decide) rfl (fun ls hl => ?_)
  refine lv_aload_n hx hb dJ7_fill_53178_2 rfl (lv_at hl 1 rfl) ?_
  refine va_alen (v := Int32.ofNat na) hx hb hK hP 0 0 rfl rfl rfl dJ7_fill_53178_3 ?_
  refine lv_topi (fun x11 ex11 => ?_)
  replace hf := nm_i hf ex11
  refine lv_istore_n (lv' := [(3, .int x11), (2, .int ((0 : Int32))), (0, .ref (g b)), (1, .int p1)]) hx hb dJ7_fill_53178_4 rfl hl (by decide) rfl (fun ls hl => ?_)
  obtain ⟨z21, hz21, hf⟩ := bd_i hf
  have hL5 : ∀ (n : Nat) (v18 : Int32) (u19 : (Nat → Int32)) (z20 : (Nat → Int32)), lf_J7_fill_53178_5 fu p1 na x11 n v18 u19 = some z20 → ∀ (H : Heap) (locs : List Loc) (ls : Array Slot), va_P D vwCl (List.flatten [wA cT g b na u19]) H → va_S A s.heap H locs → lv_has ls 4 [(0, .ref (g b)), (1, .int p1), (2, .int v18), (3, .int x11)] → (∀ (H : Heap) (locs : List Loc) (ls : Array Slot), va_P D vwCl (List.flatten [wA cT g b na z20]) H → va_S A s.heap H locs → lv_has ls 4 [] → W p l e rm_J7_fill_53178 s m args below meth c H locs 0 0 Q (F0 m 20 ls [])) → W p l e rm_J7_fill_53178 s m args below meth c H locs 0 0 Q (F0 m 5 ls []) := by
    refine lq_2_ind (F := lb_J7_fill_53178_5 fu p1 na x11) (fun rec ih v18 u19 z20 hf H locs ls hP hS hl kx => ?_)
    unfold lb_J7_fill_53178_5 at hf
    refine lv_iload_n hx hb dJ7_fill_53178_5 rfl (lv_at hl 2 rfl) ?_
    refine lv_iload_n hx hb dJ7_fill_53178_6 rfl (lv_at hl 3 rfl) ?_
    refine lv_icmp_ge (tgt := 20) hx hb dJ7_fill_53178_7 (by decide) (fun c22 => ?_) (fun c22 => ?_)
    · replace hf := it_t hf c22
      obtain rfl := Option.some.inj hf
      exact kx _ _ _ hP hS (lv_sub hl [] rfl)
    · replace hf := it_f hf c22
      refine lv_aload_n hx hb dJ7_fill_53178_10 rfl (lv_at hl 0 rfl) ?_
      refine lv_iload_n hx hb dJ7_fill_53178_11 rfl (lv_at hl 2 rfl) ?_
      refine lv_iload_n hx hb dJ7_fill_53178_12 rfl (lv_at hl 1 rfl) ?_
      obtain ⟨hi23, hf⟩ := ix_i hf
      refine va_iast hx hb hK hP (va_D_adr hD rfl) hS 0 0 rfl rfl hi23 dJ7_fill_53178_13 (fun H locs hP _ hS => ?_)
      obtain ⟨u24, eu24⟩ : ∃ z : (Nat → Int32), z = upd (u19) v18.toNatClampNeg p1 := ⟨_, rfl⟩
      replace hf := nm_i hf eu24
      have hP : va_P D vwCl (List.flatten [wA cT g b na u24]) H := by rw [eu24]; exact hP
      obtain ⟨x25, ex25⟩ : ∃ z : Int32, z = v18 + (1 : Int32) := ⟨_, rfl⟩
      replace hf := nm_i hf ex25
      refine lv_iinc (v := x25) (lv' := [(2, .int x25), (0, .ref (g b)), (1, .int p1), (3, .int x11)]) hx hb dJ7_fill_53178_14 hl (k := 2) rfl (by rw [ex25]; rfl) (by decide) rfl (fun ls hl => ?_)
      refine lv_goto (tgt := 5) hx hb dJ7_fill_53178_17 (by decide) ?_
      exact ih _ _ _ hf _ _ _ hP hS (lv_sub hl [1, 2, 0, 3] rfl) kx
  refine hL5 fu _ _ _ hz21 _ _ _ hP hS (lv_sub hl [2, 3, 1, 0] rfl) (fun H locs ls hP hS hl => ?_)
  obtain rfl := Option.some.inj hf
  subst hQ
  exact en_v hx hb hr hP hS hlocks dJ7_fill_53178_20
theorem iw_X1_makeNew_X1 : ∀ w ∈ u_ws RX1 TX1 9, w ∈ wsX1_makeNew := by decide +kernel
def f_X1_makeNew (fu : Nat) (u_st : TS) (p0 : Int32) : Option (TS) :=
nm (S_sl_ u_st p0) fun (u13 : TS) =>
nm (S_jb_ u13 ((0 : Int32))) fun (u14 : TS) =>
bd (f_J7_fill_53178 fu 60 (S_lv u14) ((0 : Int32))) fun (o15 : (Nat → Int32)) =>
nm (S_lv_ u14 o15) fun (u16 : TS) =>
bd (f_J7_fill_53178 fu 60 (S_fo u16) ((0 : Int32))) fun (o17 : (Nat → Int32)) =>
nm (S_fo_ u16 o17) fun (u18 : TS) =>
bd (f_J7_fill_53178 fu 60 (S_se u18) ((0 : Int32))) fun (o19 : (Nat → Int32)) =>
nm (S_se_ u18 o19) fun (u20 : TS) =>
bd (f_J7_fill_53178 fu 60 (S_li u20) ((0 : Int32))) fun (o21 : (Nat → Int32)) =>
nm (S_li_ u20 o21) fun (u22 : TS) =>
bd (f_J7_fill_53178 fu 7 (S_ac u22) ((0 : Int32))) fun (o23 : (Nat → Int32)) =>
nm (S_ac_ u22 o23) fun (u24 : TS) =>
some (u24)

abbrev rm_X1_makeNew : Room := { frames := 1, cells := 0, slots := 0, locals := 23 }
set_option maxHeartbeats 4000000 in
set_option maxRecDepth 100000 in
theorem c_X1_makeNew (l : Launch) (D : va_G) (cT : Nat → ClassId) (g : Nat → Nat) (b : Nat) (fu : Nat) (u_st : TS) (p0 : Int32) (o : TS) (hf : f_X1_makeNew fu u_st p0 = some o) (sz : Nat) : Met l yX1_makeNew wsX1_makeNew rm_X1_makeNew (va_Pc [.ref (g b), .int p0] (PRE D cT sz (List.flatten [wS cT g b u_st]))) (QV D (List.flatten [wS cT g b o]) (va_A (List.flatten [wS cT g b u_st]) sz)) 0 0 (va_A (List.flatten [wS cT g b u_st]) sz) := by
  refine Met.ofW (cc := cX1_makeNew) (maxL := 2) (ret := none) (by decide) rfl ?_
  intro p e s m args below meth c s₁ B0 hml hv
  obtain ⟨hav, hsz, hP, hK, hD, hN, hZ⟩ := hv
  have hx := B0.exec
  have hb := B0.bytes
  have hr := B0.returns
  have hts := atoms_spec (ws := wsX1_makeNew) B0.pre
  have hown : s.vm.findClass RX1 = some m.cls := findClass_of_methodNamed B0.named
  have hlocks := B0.notSynchronized
  subst hsz
  have hD := hD.self (sz := s.heap.size)
  have hA : ∀ q : Nat, s.heap.size ≤ q → va_A (List.flatten [wS cT g b u_st]) s.heap.size q := fun q h => Or.inr h
  generalize va_A (List.flatten [wS cT g b u_st]) s.heap.size = A at hD hZ hA ⊢
  have hS : va_S A s.heap s.heap [] := va_S.rf
  have hl := lv_entry ([.ref (g b), .int p0]) (n := 2) (Nat.le_of_ble_eq_true rfl)
  rw [hav]
  rw [lg_entry_eq]
  generalize (lg_sl ([.ref (g b), .int p0]) ++ List.replicate (2 - (lg_sl ([.ref (g b), .int p0])).length) Slot.unset).toArray = ls at hl ⊢
  have hl : lv_has ls 2 [(0, .ref (g b)), (1, .int p0)] := hl
  rw [← hav]
  generalize hQ : MQ below _ _ _ _ _ _ = Q
  show W p l e rm_X1_makeNew s m args below meth c s.heap [] 0 0 Q (F0 m 0 ls [])
  unfold f_X1_makeNew at hf
  refine lv_aload_n hx hb dX1_makeNew_0 rfl (lv_at hl 0 rfl) ?_
  refine lv_iload_n hx hb dX1_makeNew_1 rfl (lv_at hl 1 rfl) ?_
  refine va_put (ci := 1) (v := .int p0) (ty := .int) (C := RX1) (T := TX1) (N := 9) hx hb hts iw_X1_makeNew_X1 tyX1 tyX1_ok nmX1 hown hK hP (va_D_adr hD rfl) hS 0 rfl rfl 0 (by decide) (hts (.fieldLink RX1 9 "BallastTrack$State" "sleepers" "I") (List.mem_of_getElem? (i := 1) rfl)) (fun _ h9 => h9) rfl (by decide +kernel) rfl rfl (Nat.le_of_ble_eq_true rfl) dX1_makeNew_2 (fun H locs hP _ hS => ?_)
  obtain ⟨u13, eu13⟩ : ∃ z : TS, z = S_sl_ u_st p0 := ⟨_, rfl⟩
  replace hf := nm_i hf eu13
  have hP : va_P D vwCl (List.flatten [wS cT g b u13]) H := by rw [eu13]; exact hP
  refine lv_aload_n hx hb dX1_makeNew_5 rfl (lv_at hl 0 rfl) ?_
  refine lv_iconst (v := 0) hx hb dX1_makeNew_6 (by decide) ?_
  refine va_put (ci := 1) (v := .int ((0 : Int32))) (ty := .int) (C := RX1) (T := TX1) (N := 9) hx hb hts iw_X1_makeNew_X1 tyX1 tyX1_ok nmX1 hown hK hP (va_D_adr hD rfl) hS 0 rfl rfl 1 (by decide) (hts (.fieldLink RX1 15 "BallastTrack$State" "jobs" "I") (List.mem_of_getElem? (i := 2) rfl)) (fun _ h9 => h9) rfl (by decide +kernel) rfl rfl (Nat.le_of_ble_eq_true rfl) dX1_makeNew_7 (fun H locs hP _ hS => ?_)
  obtain ⟨u14, eu14⟩ : ∃ z : TS, z = S_jb_ u13 ((0 : Int32)) := ⟨_, rfl⟩
  replace hf := nm_i hf eu14
  have hP : va_P D vwCl (List.flatten [wS cT g b u14]) H := by rw [eu14]; exact hP
  refine lv_aload_n hx hb dX1_makeNew_10 rfl (lv_at hl 0 rfl) ?_
  refine va_get (ci := 1) (v := .ref (g (b + 2))) (C := RX1) (T := TX1) (N := 9) hx hb hts iw_X1_makeNew_X1 hown hK hP 0 rfl rfl 3 (by decide) (hts (.fieldLink RX1 22 "BallastTrack$State" "levels" "[I") (List.mem_of_getElem? (i := 3) rfl)) (fun _ h9 => h9) rfl dX1_makeNew_11 ?_
  refine lv_iconst (v := 0) hx hb dX1_makeNew_14 (by decide) ?_
  obtain ⟨o15, ho15, hf⟩ := bd_i hf
  have hP : va_P D vwCl (List.flatten [[((g b), .inr (1, [.int (S_sl u14), .int (S_jb u14), .ref (g (b + 1)), .ref (g (b + 2)), .ref (g (b + 3)), .ref (g (b + 4)), .ref (g (b + 5)), .ref (g (b + 6)), .ref (g (b + 7))]))], [((g (b + 1)), .inl (cT 0, 8, .inl (S_nu u14)))], wA cT g (b + 2) 60 (S_lv u14), [((g (b + 3)), .inl (cT 0, 60, .inl (S_fo u14)))], [((g (b + 4)), .inl (cT 0, 60, .inl (S_se u14)))], [((g (b + 5)), .inl (cT 0, 60, .inl (S_li u14)))], [((g (b + 6)), .inl (cT 0, 24, .inl (S_jr u14)))], [((g (b + 7)), .inl (cT 0, 7, .inl (S_ac u14)))]]) H := hP
  refine cl_v [2] [0, 1, 3, 4, 5, 6, 7] [[((g b), .inr (1, [.int (S_sl (S_lv_ u14 o15)), .int (S_jb (S_lv_ u14 o15)), .ref (g (b + 1)), .ref (g (b + 2)), .ref (g (b + 3)), .ref (g (b + 4)), .ref (g (b + 5)), .ref (g (b + 6)), .ref (g (b + 7))]))], [((g (b + 1)), .inl (cT 0, 8, .inl (S_nu (S_lv_ u14 o15))))], wA cT g (b + 2) 60 (S_lv (S_lv_ u14 o15)), [((g (b + 3)), .inl (cT 0, 60, .inl (S_fo (S_lv_ u14 o15))))], [((g (b + 4)), .inl (cT 0, 60, .inl (S_se (S_lv_ u14 o15))))], [((g (b + 5)), .inl (cT 0, 60, .inl (S_li (S_lv_ u14 o15))))], [((g (b + 6)), .inl (cT 0, 24, .inl (S_jr (S_lv_ u14 o15))))], [((g (b + 7)), .inl (cT 0, 7, .inl (S_ac (S_lv_ u14 o15))))]] hP (va_D_adr hD rfl) hA hS (va_runS (As := [.ref (g (b + 2)), .int ((0 : Int32))]) (rest := []) ⟨hx, hb, hml, hown, hts⟩ (c_J7_fill_53178 l D cT g (b + 2) 60 fu (S_lv u14) ((0 : Int32)) o15 ho15 _) (va_cwS 2 hts gX1_makeNew_J7_fill_53178 rfl rfl rfl (by decide +kernel) ⟨Nat.le_of_ble_eq_true rfl, Nat.le_of_ble_eq_true rfl⟩) ⟨PRE_blind, PRE_ok [2] (by decide) hP (va_D_adr hD rfl) hA hS hK hN hZ⟩ rfl rfl hl.1 rfl (lv_room (Nat.le_of_ble_eq_true rfl)) dX1_makeNew_15 ⟨Nat.le_of_ble_eq_true rfl, Nat.le_of_ble_eq_true rfl⟩) rfl 8 rfl (by decide) (by decide) (fun H locs hP hS => ?_)
  obtain ⟨u16, eu16⟩ : ∃ z : TS, z = S_lv_ u14 o15 := ⟨_, rfl⟩
  replace hf := nm_i hf eu16
  have hP : va_P D vwCl (List.flatten [wS cT g b u16]) H := by rw [eu16]; exact hP
  refine lv_aload_n hx hb dX1_makeNew_18 rfl (lv_at hl 0 rfl) ?_
  refine va_get (ci := 1) (v := .ref (g (b + 3))) (C := RX1) (T := TX1) (N := 9) hx hb hts iw_X1_makeNew_X1 hown hK hP 0 rfl rfl 4 (by decide) (hts (.fieldLink RX1 25 "BallastTrack$State" "foulings" "[I") (List.mem_of_getElem? (i := 4) rfl)) (fun _ h9 => h9) rfl dX1_makeNew_19 ?_
  refine lv_iconst (v := 0) hx hb dX1_makeNew_22 (by decide) ?_
  obtain ⟨o17, ho17, hf⟩ := bd_i hf
  have hP : va_P D vwCl (List.flatten [[((g b), .inr (1, [.int (S_sl u16), .int (S_jb u16), .ref (g (b + 1)), .ref (g (b + 2)), .ref (g (b + 3)), .ref (g (b + 4)), .ref (g (b + 5)), .ref (g (b + 6)), .ref (g (b + 7))]))], [((g (b + 1)), .inl (cT 0, 8, .inl (S_nu u16)))], [((g (b + 2)), .inl (cT 0, 60, .inl (S_lv u16)))], wA cT g (b + 3) 60 (S_fo u16), [((g (b + 4)), .inl (cT 0, 60, .inl (S_se u16)))], [((g (b + 5)), .inl (cT 0, 60, .inl (S_li u16)))], [((g (b + 6)), .inl (cT 0, 24, .inl (S_jr u16)))], [((g (b + 7)), .inl (cT 0, 7, .inl (S_ac u16)))]]) H := hP
  refine cl_v [3] [0, 1, 2, 4, 5, 6, 7] [[((g b), .inr (1, [.int (S_sl (S_fo_ u16 o17)), .int (S_jb (S_fo_ u16 o17)), .ref (g (b + 1)), .ref (g (b + 2)), .ref (g (b + 3)), .ref (g (b + 4)), .ref (g (b + 5)), .ref (g (b + 6)), .ref (g (b + 7))]))], [((g (b + 1)), .inl (cT 0, 8, .inl (S_nu (S_fo_ u16 o17))))], [((g (b + 2)), .inl (cT 0, 60, .inl (S_lv (S_fo_ u16 o17))))], wA cT g (b + 3) 60 (S_fo (S_fo_ u16 o17)), [((g (b + 4)), .inl (cT 0, 60, .inl (S_se (S_fo_ u16 o17))))], [((g (b + 5)), .inl (cT 0, 60, .inl (S_li (S_fo_ u16 o17))))], [((g (b + 6)), .inl (cT 0, 24, .inl (S_jr (S_fo_ u16 o17))))], [((g (b + 7)), .inl (cT 0, 7, .inl (S_ac (S_fo_ u16 o17))))]] hP (va_D_adr hD rfl) hA hS (va_runS (As := [.ref (g (b + 3)), .int ((0 : Int32))]) (rest := []) ⟨hx, hb, hml, hown, hts⟩ (c_J7_fill_53178 l D cT g (b + 3) 60 fu (S_fo u16) ((0 : Int32)) o17 ho17 _) (va_cwS 2 hts gX1_makeNew_J7_fill_53178 rfl rfl rfl (by decide +kernel) ⟨Nat.le_of_ble_eq_true rfl, Nat.le_of_ble_eq_true rfl⟩) ⟨PRE_blind, PRE_ok [3] (by decide) hP (va_D_adr hD rfl) hA hS hK hN hZ⟩ rfl rfl hl.1 rfl (lv_room (Nat.le_of_ble_eq_true rfl)) dX1_makeNew_23 ⟨Nat.le_of_ble_eq_true rfl, Nat.le_of_ble_eq_true rfl⟩) rfl 8 rfl (by decide) (by decide) (fun H locs hP hS => ?_)
  obtain ⟨u18, eu18⟩ : ∃ z : TS, z = S_fo_ u16 o17 := ⟨_, rfl⟩
  replace hf := nm_i hf eu18
  have hP : va_P D vwCl (List.flatten [wS cT g b u18]) H := by rw [eu18]; exact hP
  refine lv_aload_n hx hb dX1_makeNew_26 rfl (lv_at hl 0 rfl) ?_
  refine va_get (ci := 1) (v := .ref (g (b + 4))) (C := RX1) (T := TX1) (N := 9) hx hb hts iw_X1_makeNew_X1 hown hK hP 0 rfl rfl 5 (by decide) (hts (.fieldLink RX1 28 "BallastTrack$State" "settled" "[I") (List.mem_of_getElem? (i := 5) rfl)) (fun _ h9 => h9) rfl dX1_makeNew_27 ?_
  refine lv_iconst (v := 0) hx hb dX1_makeNew_30 (by decide) ?_
  obtain ⟨o19, ho19, hf⟩ := bd_i hf
  have hP : va_P D vwCl (List.flatten [[((g b), .inr (1, [.int (S_sl u18), .int (S_jb u18), .ref (g (b + 1)), .ref (g (b + 2)), .ref (g (b + 3)), .ref (g (b + 4)), .ref (g (b + 5)), .ref (g (b + 6)), .ref (g (b + 7))]))], [((g (b + 1)), .inl (cT 0, 8, .inl (S_nu u18)))], [((g (b + 2)), .inl (cT 0, 60, .inl (S_lv u18)))], [((g (b + 3)), .inl (cT 0, 60, .inl (S_fo u18)))], wA cT g (b + 4) 60 (S_se u18), [((g (b + 5)), .inl (cT 0, 60, .inl (S_li u18)))], [((g (b + 6)), .inl (cT 0, 24, .inl (S_jr u18)))], [((g (b + 7)), .inl (cT 0, 7, .inl (S_ac u18)))]]) H := hP
  refine cl_v [4] [0, 1, 2, 3, 5, 6, 7] [[((g b), .inr (1, [.int (S_sl (S_se_ u18 o19)), .int (S_jb (S_se_ u18 o19)), .ref (g (b + 1)), .ref (g (b + 2)), .ref (g (b + 3)), .ref (g (b + 4)), .ref (g (b + 5)), .ref (g (b + 6)), .ref (g (b + 7))]))], [((g (b + 1)), .inl (cT 0, 8, .inl (S_nu (S_se_ u18 o19))))], [((g (b + 2)), .inl (cT 0, 60, .inl (S_lv (S_se_ u18 o19))))], [((g (b + 3)), .inl (cT 0, 60, .inl (S_fo (S_se_ u18 o19))))], wA cT g (b + 4) 60 (S_se (S_se_ u18 o19)), [((g (b + 5)), .inl (cT 0, 60, .inl (S_li (S_se_ u18 o19))))], [((g (b + 6)), .inl (cT 0, 24, .inl (S_jr (S_se_ u18 o19))))], [((g (b + 7)), .inl (cT 0, 7, .inl (S_ac (S_se_ u18 o19))))]] hP (va_D_adr hD rfl) hA hS (va_runS (As := [.ref (g (b + 4)), .int ((0 : Int32))]) (rest := []) ⟨hx, hb, hml, hown, hts⟩ (c_J7_fill_53178 l D cT g (b + 4) 60 fu (S_se u18) ((0 : Int32)) o19 ho19 _) (va_cwS 2 hts gX1_makeNew_J7_fill_53178 rfl rfl rfl (by decide +kernel) ⟨Nat.le_of_ble_eq_true rfl, Nat.le_of_ble_eq_true rfl⟩) ⟨PRE_blind, PRE_ok [4] (by decide) hP (va_D_adr hD rfl) hA hS hK hN hZ⟩ rfl rfl hl.1 rfl (lv_room (Nat.le_of_ble_eq_true rfl)) dX1_makeNew_31 ⟨Nat.le_of_ble_eq_true rfl, Nat.le_of_ble_eq_true rfl⟩) rfl 8 rfl (by decide) (by decide) (fun H locs hP hS => ?_)
  obtain ⟨u20, eu20⟩ : ∃ z : TS, z = S_se_ u18 o19 := ⟨_, rfl⟩
  replace hf := nm_i hf eu20
  have hP : va_P D vwCl (List.flatten [wS cT g b u20]) H := by rw [eu20]; exact hP
  refine lv_aload_n hx hb dX1_makeNew_34 rfl (lv_at hl 0 rfl) ?_
  refine va_get (ci := 1) (v := .ref (g (b + 5))) (C := RX1) (T := TX1) (N := 9) hx hb hts iw_X1_makeNew_X1 hown hK hP 0 rfl rfl 6 (by decide) (hts (.fieldLink RX1 31 "BallastTrack$State" "lifted" "[I") (List.mem_of_getElem? (i := 6) rfl)) (fun _ h9 => h9) rfl dX1_makeNew_35 ?_
  refine lv_iconst (v := 0) hx hb dX1_makeNew_38 (by decide) ?_
  obtain ⟨o21, ho21, hf⟩ := bd_i hf
  have hP : va_P D vwCl (List.flatten [[((g b), .inr (1, [.int (S_sl u20), .int (S_jb u20), .ref (g (b + 1)), .ref (g (b + 2)), .ref (g (b + 3)), .ref (g (b + 4)), .ref (g (b + 5)), .ref (g (b + 6)), .ref (g (b + 7))]))], [((g (b + 1)), .inl (cT 0, 8, .inl (S_nu u20)))], [((g (b + 2)), .inl (cT 0, 60, .inl (S_lv u20)))], [((g (b + 3)), .inl (cT 0, 60, .inl (S_fo u20)))], [((g (b + 4)), .inl (cT 0, 60, .inl (S_se u20)))], wA cT g (b + 5) 60 (S_li u20), [((g (b + 6)), .inl (cT 0, 24, .inl (S_jr u20)))], [((g (b + 7)), .inl (cT 0, 7, .inl (S_ac u20)))]]) H := hP
  refine cl_v [5] [0, 1, 2, 3, 4, 6, 7] [[((g b), .inr (1, [.int (S_sl (S_li_ u20 o21)), .int (S_jb (S_li_ u20 o21)), .ref (g (b + 1)), .ref (g (b + 2)), .ref (g (b + 3)), .ref (g (b + 4)), .ref (g (b + 5)), .ref (g (b + 6)), .ref (g (b + 7))]))], [((g (b + 1)), .inl (cT 0, 8, .inl (S_nu (S_li_ u20 o21))))], [((g (b + 2)), .inl (cT 0, 60, .inl (S_lv (S_li_ u20 o21))))], [((g (b + 3)), .inl (cT 0, 60, .inl (S_fo (S_li_ u20 o21))))], [((g (b + 4)), .inl (cT 0, 60, .inl (S_se (S_li_ u20 o21))))], wA cT g (b + 5) 60 (S_li (S_li_ u20 o21)), [((g (b + 6)), .inl (cT 0, 24, .inl (S_jr (S_li_ u20 o21))))], [((g (b + 7)), .inl (cT 0, 7, .inl (S_ac (S_li_ u20 o21))))]] hP (va_D_adr hD rfl) hA hS (va_runS (As := [.ref (g (b + 5)), .int ((0 : Int32))]) (rest := []) ⟨hx, hb, hml, hown, hts⟩ (c_J7_fill_53178 l D cT g (b + 5) 60 fu (S_li u20) ((0 : Int32)) o21 ho21 _) (va_cwS 2 hts gX1_makeNew_J7_fill_53178 rfl rfl rfl (by decide +kernel) ⟨Nat.le_of_ble_eq_true rfl, Nat.le_of_ble_eq_true rfl⟩) ⟨PRE_blind, PRE_ok [5] (by decide) hP (va_D_adr hD rfl) hA hS hK hN hZ⟩ rfl rfl hl.1 rfl (lv_room (Nat.le_of_ble_eq_true rfl)) dX1_makeNew_39 ⟨Nat.le_of_ble_eq_true rfl, Nat.le_of_ble_eq_true rfl⟩) rfl 8 rfl (by decide) (by decide) (fun H locs hP hS => ?_)
  obtain ⟨u22, eu22⟩ : ∃ z : TS, z = S_li_ u20 o21 := ⟨_, rfl⟩
  replace hf := nm_i hf eu22
  have hP : va_P D vwCl (List.flatten [wS cT g b u22]) H := by rw [eu22]; exact hP
  refine lv_aload_n hx hb dX1_makeNew_42 rfl (lv_at hl 0 rfl) ?_
  refine va_get (ci := 1) (v := .ref (g (b + 7))) (C := RX1) (T := TX1) (N := 9) hx hb hts iw_X1_makeNew_X1 hown hK hP 0 rfl rfl 8 (by decide) (hts (.fieldLink RX1 37 "BallastTrack$State" "accounts" "[I") (List.mem_of_getElem? (i := 7) rfl)) (fun _ h9 => h9) rfl dX1_makeNew_43 ?_
  refine lv_iconst (v := 0) hx hb dX1_makeNew_46 (by decide) ?_
  obtain ⟨o23, ho23, hf⟩ := bd_i hf
  have hP : va_P D vwCl (List.flatten [[((g b), .inr (1, [.int (S_sl u22), .int (S_jb u22), .ref (g (b + 1)), .ref (g (b + 2)), .ref (g (b + 3)), .ref (g (b + 4)), .ref (g (b + 5)), .ref (g (b + 6)), .ref (g (b + 7))]))], [((g (b + 1)), .inl (cT 0, 8, .inl (S_nu u22)))], [((g (b + 2)), .inl (cT 0, 60, .inl (S_lv u22)))], [((g (b + 3)), .inl (cT 0, 60, .inl (S_fo u22)))], [((g (b + 4)), .inl (cT 0, 60, .inl (S_se u22)))], [((g (b + 5)), .inl (cT 0, 60, .inl (S_li u22)))], [((g (b + 6)), .inl (cT 0, 24, .inl (S_jr u22)))], wA cT g (b + 7) 7 (S_ac u22)]) H := hP
  refine cl_v [7] [0, 1, 2, 3, 4, 5, 6] [[((g b), .inr (1, [.int (S_sl (S_ac_ u22 o23)), .int (S_jb (S_ac_ u22 o23)), .ref (g (b + 1)), .ref (g (b + 2)), .ref (g (b + 3)), .ref (g (b + 4)), .ref (g (b + 5)), .ref (g (b + 6)), .ref (g (b + 7))]))], [((g (b + 1)), .inl (cT 0, 8, .inl (S_nu (S_ac_ u22 o23))))], [((g (b + 2)), .inl (cT 0, 60, .inl (S_lv (S_ac_ u22 o23))))], [((g (b + 3)), .inl (cT 0, 60, .inl (S_fo (S_ac_ u22 o23))))], [((g (b + 4)), .inl (cT 0, 60, .inl (S_se (S_ac_ u22 o23))))], [((g (b + 5)), .inl (cT 0, 60, .inl (S_li (S_ac_ u22 o23))))], [((g (b + 6)), .inl (cT 0, 24, .inl (S_jr (S_ac_ u22 o23))))], wA cT g (b + 7) 7 (S_ac (S_ac_ u22 o23))] hP (va_D_adr hD rfl) hA hS (va_runS (As := [.ref (g (b + 7)), .int ((0 : Int32))]) (rest := []) ⟨hx, hb, hml, hown, hts⟩ (c_J7_fill_53178 l D cT g (b + 7) 7 fu (S_ac u22) ((0 : Int32)) o23 ho23 _) (va_cwS 2 hts gX1_makeNew_J7_fill_53178 rfl rfl rfl (by decide +kernel) ⟨Nat.le_of_ble_eq_true rfl, Nat.le_of_ble_eq_true rfl⟩) ⟨PRE_blind, PRE_ok [7] (by decide) hP (va_D_adr hD rfl) hA hS hK hN hZ⟩ rfl rfl hl.1 rfl (lv_room (Nat.le_of_ble_eq_true rfl)) dX1_makeNew_47 ⟨Nat.le_of_ble_eq_true rfl, Nat.le_of_ble_eq_true rfl⟩) rfl 8 rfl (by decide) (by decide) (fun H locs hP hS => ?_)
  obtain ⟨u24, eu24⟩ : ∃ z : TS, z = S_ac_ u22 o23 := ⟨_, rfl⟩
  replace hf := nm_i hf eu24
  have hP : va_P D vwCl (List.flatten [wS cT g b u24]) H := by rw [eu24]; exact hP
  obtain rfl := Option.some.inj hf
  subst hQ
  exact en_v hx hb hr hP hS hlocks dX1_makeNew_50
def f_X4_isWithin (fu : Nat)  (p0 : Int32) (p1 : Int32) (p2 : Int32) : Option (Bool) :=
jn (some (false)
) fun K14_7 =>
if p0 < p1 then (
K14_7 
)
else (
if p2 < p0 then (
K14_7 
)
else (
some (true)
)
)

abbrev rm_X4_isWithin : Room := { frames := 0, cells := 0, slots := 0, locals := 0 }
set_option maxHeartbeats 4000000 in
set_option maxRecDepth 100000 in
theorem c_X4_isWithin (l : Launch) (D : va_G) (cT : Nat → ClassId) (g : Nat → Nat) (fu : Nat)  (p0 : Int32) (p1 : Int32) (p2 : Int32) (o : Bool) (hf : f_X4_isWithin fu  p0 p1 p2 = some o) (sz : Nat) : Met l yX4_isWithin wsX4_isWithin rm_X4_isWithin (va_Pc [.int p0, .int p1, .int p2] (PRE D cT sz (List.flatten []))) (QI D (bI o) (List.flatten []) (va_A (List.flatten []) sz)) 0 0 (va_A (List.flatten []) sz) := by
  refine Met.ofW (cc := cX4_isWithin) (maxL := 3) (ret := (some .boolean)) (by decide) rfl ?_
  intro p e s m args below meth c s₁ B0 hml hv
  obtain ⟨hav, hsz, hP, hK, hD, hN, hZ⟩ := hv
  have hx := B0.exec
  have hb := B0.bytes
  have hr := B0.returns
  have hts := atoms_spec (ws := wsX4_isWithin) B0.pre
  have hown : s.vm.findClass RX4 = some m.cls := findClass_of_methodNamed B0.named
  have hlocks := B0.notSynchronized
  subst hsz
  have hD := hD.self (sz := s.heap.size)
  have hA : ∀ q : Nat, s.heap.size ≤ q → va_A (List.flatten []) s.heap.size q := fun q h => Or.inr h
  generalize va_A (List.flatten []) s.heap.size = A at hD hZ hA ⊢
  have hS : va_S A s.heap s.heap [] := va_S.rf
  have hl := lv_entry ([.int p0, .int p1, .int p2]) (n := 3) (Nat.le_of_ble_eq_true rfl)
  rw [hav]
  rw [lg_entry_eq]
  generalize (lg_sl ([.int p0, .int p1, .int p2]) ++ List.replicate (3 - (lg_sl ([.int p0, .int p1, .int p2])).length) Slot.unset).toArray = ls at hl ⊢
  have hl : lv_has ls 3 [(0, .int p0), (1, .int p1), (2, .int p2)] := hl
  rw [← hav]
  generalize hQ : MQ below _ _ _ _ _ _ = Q
  show W p l e rm_X4_isWithin s m args below meth c s.heap [] 0 0 Q (F0 m 0 ls [])
  unfold f_X4_isWithin at hf
  refine lv_iload_n hx hb dX4_isWithin_0 rfl (lv_at hl 0 rfl) ?_
  refine lv_iload_n hx hb dX4_isWithin_1 rfl (lv_at hl 1 rfl) ?_
  obtain ⟨K14_7, eK14_7, hf⟩ := jn_i hf
  have hK14_7 : ∀  (H : Heap) (locs : List Loc) (ls : Array Slot), K14_7  = some o → va_P D vwCl (List.flatten []) H → va_S A s.heap H locs → lv_has ls 3 [] → W p l e rm_X4_isWithin s m args below meth c H locs 0 0 Q (F0 m 14 ls []) := by
    intro  H locs ls hf hP hS hl
    rw [eK14_7] at hf
    refine lv_iconst (v := 0) hx hb dX4_isWithin_14 (by decide) ?_
    obtain rfl := Option.some.inj hf
    subst hQ
    exact en_z (v := false) hx hb hr hP hS hlocks dX4_isWithin_15
  clear eK14_7
  refine lv_icmp_lt (tgt := 14) hx hb dX4_isWithin_2 (by decide) (fun c8 => ?_) (fun c8 => ?_)
  · replace hf := it_t hf c8
    exact hK14_7  _ _ _ hf hP hS (lv_sub hl [] rfl)
  · replace hf := it_f hf c8
    refine lv_iload_n hx hb dX4_isWithin_5 rfl (lv_at hl 0 rfl) ?_
    refine lv_iload_n hx hb dX4_isWithin_6 rfl (lv_at hl 2 rfl) ?_
    refine lv_icmp_gt (tgt := 14) hx hb dX4_isWithin_7 (by decide) (fun c9 => ?_) (fun c9 => ?_)
    · replace hf := it_t hf c9
      exact hK14_7  _ _ _ hf hP hS (lv_sub hl [] rfl)
    · replace hf := it_f hf c9
      refine lv_iconst (v := 1) hx hb dX4_isWithin_10 (by decide) ?_
      refine lv_goto (tgt := 15) hx hb dX4_isWithin_11 (by decide) ?_
      obtain rfl := Option.some.inj hf
      subst hQ
      exact en_z (v := true) hx hb hr hP hS hlocks dX4_isWithin_15
theorem iw_X1_has_X1 : ∀ w ∈ u_ws RX1 TX1 9, w ∈ wsX1_has := by decide +kernel
def f_X1_has (fu : Nat) (u_st : TS) (p0 : Int32) : Option (Bool) :=
nm (S_sl u_st) fun (x4 : Int32) =>
nm (x4 - (1 : Int32)) fun (x5 : Int32) =>
bd (f_X4_isWithin fu  p0 ((0 : Int32)) x5) fun (o6 : Bool) =>
some (o6)

abbrev rm_X1_has : Room := { frames := 1, cells := 0, slots := 0, locals := 22 }
set_option maxHeartbeats 4000000 in
set_option maxRecDepth 100000 in
theorem c_X1_has (l : Launch) (D : va_G) (cT : Nat → ClassId) (g : Nat → Nat) (b : Nat) (fu : Nat) (u_st : TS) (p0 : Int32) (o : Bool) (hf : f_X1_has fu u_st p0 = some o) (sz : Nat) : Met l yX1_has wsX1_has rm_X1_has (va_Pc [.ref (g b), .int p0] (PRE D cT sz (List.flatten [wS cT g b u_st]))) (QI D (bI o) (List.flatten [wS cT g b u_st]) (va_A (List.flatten [wS cT g b u_st]) sz)) 0 0 (va_A (List.flatten [wS cT g b u_st]) sz) := by
  refine Met.ofW (cc := cX1_has) (maxL := 2) (ret := (some .boolean)) (by decide) rfl ?_
  intro p e s m args below meth c s₁ B0 hml hv
  obtain ⟨hav, hsz, hP, hK, hD, hN, hZ⟩ := hv
  have hx := B0.exec
  have hb := B0.bytes
  have hr := B0.returns
  have hts := atoms_spec (ws := wsX1_has) B0.pre
  have hown : s.vm.findClass RX1 = some m.cls := findClass_of_methodNamed B0.named
  have hlocks := B0.notSynchronized
  subst hsz
  have hD := hD.self (sz := s.heap.size)
  have hA : ∀ q : Nat, s.heap.size ≤ q → va_A (List.flatten [wS cT g b u_st]) s.heap.size q := fun q h => Or.inr h
  generalize va_A (List.flatten [wS cT g b u_st]) s.heap.size = A at hD hZ hA ⊢
  have hS : va_S A s.heap s.heap [] := va_S.rf
  have hl := lv_entry ([.ref (g b), .int p0]) (n := 2) (Nat.le_of_ble_eq_true rfl)
  rw [hav]
  rw [lg_entry_eq]
  generalize (lg_sl ([.ref (g b), .int p0]) ++ List.replicate (2 - (lg_sl ([.ref (g b), .int p0])).length) Slot.unset).toArray = ls at hl ⊢
  have hl : lv_has ls 2 [(0, .ref (g b)), (1, .int p0)] := hl
  rw [← hav]
  generalize hQ : MQ below _ _ _ _ _ _ = Q
  show W p l e rm_X1_has s m args below meth c s.heap [] 0 0 Q (F0 m 0 ls [])
  unfold f_X1_has at hf
  refine lv_iload_n hx hb dX1_has_0 rfl (lv_at hl 1 rfl) ?_
  refine lv_iconst (v := 0) hx hb dX1_has_1 (by decide) ?_
  refine lv_aload_n hx hb dX1_has_2 rfl (lv_at hl 0 rfl) ?_
  refine va_get (ci := 1) (v := .int (S_sl u_st)) (C := RX1) (T := TX1) (N := 9) hx hb hts iw_X1_has_X1 hown hK hP 0 rfl rfl 0 (by decide) (hts (.fieldLink RX1 9 "BallastTrack$State" "sleepers" "I") (List.mem_of_getElem? (i := 1) rfl)) (fun _ h9 => h9) rfl dX1_has_3 ?_
  refine lv_topi (fun x4 ex4 => ?_)
  replace hf := nm_i hf ex4
  refine lv_iconst (v := 1) hx hb dX1_has_6 (by decide) ?_
  refine lv_isub hx hb dX1_has_7 ?_
  refine lv_topi (fun x5 ex5 => ?_)
  replace hf := nm_i hf ex5
  obtain ⟨o6, ho6, hf⟩ := bd_i hf
  refine cl_i [] [0] [wS cT g b u_st] hP (va_D_adr hD rfl) hA hS (va_runSN (As := [.int p0, .int ((0 : Int32)), .int x5]) (rest := []) ⟨hx, hb, hml, hown, hts⟩ (c_X4_isWithin l D cT g  fu  p0 ((0 : Int32)) x5 o6 ho6 _) ⟨va_cnB 3 hts gX1_has_X4_isWithin_n55 rfl rfl rfl hN.2.1 (hts (.initialized RX4) (List.mem_of_getElem? (i := 3) rfl)) (by decide +kernel) ⟨Nat.le_of_ble_eq_true rfl, Nat.le_of_ble_eq_true rfl⟩, (hts (.static yX4_isWithin) (List.mem_of_getElem? (i := 2) rfl)), trivial⟩ ⟨PRE_blind, PRE_ok [] (by decide) hP (va_D_adr hD rfl) hA hS hK hN hZ⟩ rfl rfl hl.1 rfl (lv_room (Nat.le_of_ble_eq_true rfl)) dX1_has_8 ⟨Nat.le_of_ble_eq_true rfl, Nat.le_of_ble_eq_true rfl⟩) rfl 1 rfl (by decide) (by decide) (fun H locs hP hS => ?_)
  obtain rfl := Option.some.inj hf
  subst hQ
  exact en_z hx hb hr hP hS hlocks dX1_has_11
theorem iw_X1_putLevel_X1 : ∀ w ∈ u_ws RX1 TX1 9, w ∈ wsX1_putLevel := by decide +kernel
def f_X1_putLevel (fu : Nat) (u_st : TS) (p0 : Int32) (p1 : Int32) : Option (TS) :=
nm (S_ac u_st 6) fun (x9 : Int32) =>
ix p0 60 <|
nm ((S_lv u_st) p0.toNatClampNeg) fun (x11 : Int32) =>
nm (p1 - x11) fun (x12 : Int32) =>
nm (x9 + x12) fun (x13 : Int32) =>
nm (S_ac_ u_st (upd (S_ac u_st) 6 x13)) fun (u14 : TS) =>
ix p0 60 <|
nm (S_lv_ u14 (upd (S_lv u14) p0.toNatClampNeg p1)) fun (u16 : TS) =>
some (u16)

abbrev rm_X1_putLevel : Room := { frames := 0, cells := 0, slots := 0, locals := 0 }
set_option maxHeartbeats 4000000 in
set_option maxRecDepth 100000 in
theorem c_X1_putLevel (l : Launch) (D : va_G) (cT : Nat → ClassId) (g : Nat → Nat) (b : Nat) (fu : Nat) (u_st : TS) (p0 : Int32) (p1 : Int32) (o : TS) (hf : f_X1_putLevel fu u_st p0 p1 = some o) (sz : Nat) : Met l yX1_putLevel wsX1_putLevel rm_X1_putLevel (va_Pc [.ref (g b), .int p0, .int p1] (PRE D cT sz (List.flatten [wS cT g b u_st]))) (QV D (List.flatten [wS cT g b o]) (va_A (List.flatten [wS cT g b u_st]) sz)) 0 0 (va_A (List.flatten [wS cT g b u_st]) sz) := by
  refine Met.ofW (cc := cX1_putLevel) (maxL := 3) (ret := none) (by decide) rfl ?_
  intro p e s m args below meth c s₁ B0 hml hv
  obtain ⟨hav, hsz, hP, hK, hD, hN, hZ⟩ := hv
  have hx := B0.exec
  have hb := B0.bytes
  have hr := B0.returns
  have hts := atoms_spec (ws := wsX1_putLevel) B0.pre
  have hown : s.vm.findClass RX1 = some m.cls := findClass_of_methodNamed B0.named
  have hlocks := B0.notSynchronized
  subst hsz
  have hD := hD.self (sz := s.heap.size)
  have hA : ∀ q : Nat, s.heap.size ≤ q → va_A (List.flatten [wS cT g b u_st]) s.heap.size q := fun q h => Or.inr h
  generalize va_A (List.flatten [wS cT g b u_st]) s.heap.size = A at hD hZ hA ⊢
  have hS : va_S A s.heap s.heap [] := va_S.rf
  have hl := lv_entry ([.ref (g b), .int p0, .int p1]) (n := 3) (Nat.le_of_ble_eq_true rfl)
  rw [hav]
  rw [lg_entry_eq]
  generalize (lg_sl ([.ref (g b), .int p0, .int p1]) ++ List.replicate (3 - (lg_sl ([.ref (g b), .int p0, .int p1])).length) Slot.unset).toArray = ls at hl ⊢
  have hl : lv_has ls 3 [(0, .ref (g b)), (1, .int p0), (2, .int p1)] := hl
  rw [← hav]
  generalize hQ : MQ below _ _ _ _ _ _ = Q
  show W p l e rm_X1_putLevel s m args below meth c s.heap [] 0 0 Q (F0 m 0 ls [])
  unfold f_X1_putLevel at hf
  refine lv_aload_n hx hb dX1_putLevel_0 rfl (lv_at hl 0 rfl) ?_
  refine va_get (ci := 1) (v := .ref (g (b + 7))) (C := RX1) (T := TX1) (N := 9) hx hb hts iw_X1_putLevel_X1 hown hK hP 0 rfl rfl 8 (by decide) (hts (.fieldLink RX1 37 "BallastTrack$State" "accounts" "[I") (List.mem_of_getElem? (i := 1) rfl)) (fun _ h9 => h9) rfl dX1_putLevel_1 ?_
  refine lv_bipush (v := 6) hx hb dX1_putLevel_4 (by decide) ?_
  refine lv_dup2_11 hx hb dX1_putLevel_6 rfl rfl ?_
  refine va_iald hx hb hK hP 7 0 rfl rfl (by unfold vp_in; decide) dX1_putLevel_7 ?_
  refine lv_topi (fun x9 ex9 => ?_)
  replace hf := nm_i hf ex9
  refine lv_iload_n hx hb dX1_putLevel_8 rfl (lv_at hl 2 rfl) ?_
  refine lv_aload_n hx hb dX1_putLevel_9 rfl (lv_at hl 0 rfl) ?_
  refine va_get (ci := 1) (v := .ref (g (b + 2))) (C := RX1) (T := TX1) (N := 9) hx hb hts iw_X1_putLevel_X1 hown hK hP 0 rfl rfl 3 (by decide) (hts (.fieldLink RX1 22 "BallastTrack$State" "levels" "[I") (List.mem_of_getElem? (i := 2) rfl)) (fun _ h9 => h9) rfl dX1_putLevel_10 ?_
  refine lv_iload_n hx hb dX1_putLevel_13 rfl (lv_at hl 1 rfl) ?_
  obtain ⟨hi10, hf⟩ := ix_i hf
  refine va_iald hx hb hK hP 2 0 rfl rfl hi10 dX1_putLevel_14 ?_
  refine lv_topi (fun x11 ex11 => ?_)
  replace hf := nm_i hf ex11
  refine lv_isub hx hb dX1_putLevel_15 ?_
  refine lv_topi (fun x12 ex12 => ?_)
  replace hf := nm_i hf ex12
  refine lv_iadd hx hb dX1_putLevel_16 ?_
  refine lv_topi (fun x13 ex13 => ?_)
  replace hf := nm_i hf ex13
  refine va_iast hx hb hK hP (va_D_adr hD rfl) hS 7 0 rfl rfl (by unfold vp_in; decide) dX1_putLevel_17 (fun H locs hP _ hS => ?_)
  obtain ⟨u14, eu14⟩ : ∃ z : TS, z = S_ac_ u_st (upd (S_ac u_st) 6 x13) := ⟨_, rfl⟩
  replace hf := nm_i hf eu14
  have hP : va_P D vwCl (List.flatten [wS cT g b u14]) H := by rw [eu14]; exact hP
  refine lv_aload_n hx hb dX1_putLevel_18 rfl (lv_at hl 0 rfl) ?_
  refine va_get (ci := 1) (v := .ref (g (b + 2))) (C := RX1) (T := TX1) (N := 9) hx hb hts iw_X1_putLevel_X1 hown hK hP 0 rfl rfl 3 (by decide) (hts (.fieldLink RX1 22 "BallastTrack$State" "levels" "[I") (List.mem_of_getElem? (i := 2) rfl)) (fun _ h9 => h9) rfl dX1_putLevel_19 ?_
  refine lv_iload_n hx hb dX1_putLevel_22 rfl (lv_at hl 1 rfl) ?_
  refine lv_iload_n hx hb dX1_putLevel_23 rfl (lv_at hl 2 rfl) ?_
  obtain ⟨hi15, hf⟩ := ix_i hf
  refine va_iast hx hb hK hP (va_D_adr hD rfl) hS 2 0 rfl rfl hi15 dX1_putLevel_24 (fun H locs hP _ hS => ?_)
  obtain ⟨u16, eu16⟩ : ∃ z : TS, z = S_lv_ u14 (upd (S_lv u14) p0.toNatClampNeg p1) := ⟨_, rfl⟩
  replace hf := nm_i hf eu16
  have hP : va_P D vwCl (List.flatten [wS cT g b u16]) H := by rw [eu16]; exact hP
  obtain rfl := Option.some.inj hf
  subst hQ
  exact en_v hx hb hr hP hS hlocks dX1_putLevel_25
theorem iw_X1_foul_X1 : ∀ w ∈ u_ws RX1 TX1 9, w ∈ wsX1_foul := by decide +kernel
def f_X1_foul (fu : Nat) (u_st : TS) (p0 : Int32) (p1 : Int32) : Option (TS) :=
ix p0 60 <|
nm ((S_fo u_st) p0.toNatClampNeg) fun (x8 : Int32) =>
nm (x8 + p1) fun (x9 : Int32) =>
nm (if x9 < (100 : Int32) then x9 else (100 : Int32)) fun (x10 : Int32) =>
ix p0 60 <|
nm (S_fo_ u_st (upd (S_fo u_st) p0.toNatClampNeg x10)) fun (u12 : TS) =>
some (u12)

abbrev rm_X1_foul : Room := { frames := 1, cells := 0, slots := 0, locals := 40 }
set_option maxHeartbeats 4000000 in
set_option maxRecDepth 100000 in
theorem c_X1_foul (l : Launch) (D : va_G) (cT : Nat → ClassId) (g : Nat → Nat) (b : Nat) (fu : Nat) (u_st : TS) (p0 : Int32) (p1 : Int32) (o : TS) (hf : f_X1_foul fu u_st p0 p1 = some o) (sz : Nat) : Met l yX1_foul wsX1_foul rm_X1_foul (va_Pc [.ref (g b), .int p0, .int p1] (PRE D cT sz (List.flatten [wS cT g b u_st]))) (QV D (List.flatten [wS cT g b o]) (va_A (List.flatten [wS cT g b u_st]) sz)) 0 0 (va_A (List.flatten [wS cT g b u_st]) sz) := by
  refine Met.ofW (cc := cX1_foul) (maxL := 3) (ret := none) (by decide) rfl ?_
  intro p e s m args below meth c s₁ B0 hml hv
  obtain ⟨hav, hsz, hP, hK, hD, hN, hZ⟩ := hv
  have hx := B0.exec
  have hb := B0.bytes
  have hr := B0.returns
  have hts := atoms_spec (ws := wsX1_foul) B0.pre
  have hown : s.vm.findClass RX1 = some m.cls := findClass_of_methodNamed B0.named
  have hlocks := B0.notSynchronized
  subst hsz
  have hD := hD.self (sz := s.heap.size)
  have hA : ∀ q : Nat, s.heap.size ≤ q → va_A (List.flatten [wS cT g b u_st]) s.heap.size q := fun q h => Or.inr h
  generalize va_A (List.flatten [wS cT g b u_st]) s.heap.size = A at hD hZ hA ⊢
  have hS : va_S A s.heap s.heap [] := va_S.rf
  have hl := lv_entry ([.ref (g b), .int p0, .int p1]) (n := 3) (Nat.le_of_ble_eq_true rfl)
  rw [hav]
  rw [lg_entry_eq]
  generalize (lg_sl ([.ref (g b), .int p0, .int p1]) ++ List.replicate (3 - (lg_sl ([.ref (g b), .int p0, .int p1])).length) Slot.unset).toArray = ls at hl ⊢
  have hl : lv_has ls 3 [(0, .ref (g b)), (1, .int p0), (2, .int p1)] := hl
  rw [← hav]
  generalize hQ : MQ below _ _ _ _ _ _ = Q
  show W p l e rm_X1_foul s m args below meth c s.heap [] 0 0 Q (F0 m 0 ls [])
  unfold f_X1_foul at hf
  refine lv_aload_n hx hb dX1_foul_0 rfl (lv_at hl 0 rfl) ?_
  refine va_get (ci := 1) (v := .ref (g (b + 3))) (C := RX1) (T := TX1) (N := 9) hx hb hts iw_X1_foul_X1 hown hK hP 0 rfl rfl 4 (by decide) (hts (.fieldLink RX1 25 "BallastTrack$State" "foulings" "[I") (List.mem_of_getElem? (i := 1) rfl)) (fun _ h9 => h9) rfl dX1_foul_1 ?_
  refine lv_iload_n hx hb dX1_foul_4 rfl (lv_at hl 1 rfl) ?_
  refine lv_bipush (v := 100) hx hb dX1_foul_5 (by decide) ?_
  refine lv_aload_n hx hb dX1_foul_7 rfl (lv_at hl 0 rfl) ?_
  refine va_get (ci := 1) (v := .ref (g (b + 3))) (C := RX1) (T := TX1) (N := 9) hx hb hts iw_X1_foul_X1 hown hK hP 0 rfl rfl 4 (by decide) (hts (.fieldLink RX1 25 "BallastTrack$State" "foulings" "[I") (List.mem_of_getElem? (i := 1) rfl)) (fun _ h9 => h9) rfl dX1_foul_8 ?_
  refine lv_iload_n hx hb dX1_foul_11 rfl (lv_at hl 1 rfl) ?_
  obtain ⟨hi7, hf⟩ := ix_i hf
  refine va_iald hx hb hK hP 3 0 rfl rfl hi7 dX1_foul_12 ?_
  refine lv_topi (fun x8 ex8 => ?_)
  replace hf := nm_i hf ex8
  refine lv_iload_n hx hb dX1_foul_13 rfl (lv_at hl 2 rfl) ?_
  refine lv_iadd hx hb dX1_foul_14 ?_
  refine lv_topi (fun x9 ex9 => ?_)
  replace hf := nm_i hf ex9
  refine va_mmin hx hb (by rw [hml]; exact hl.1.symm) hown (hts (.methodLink RX1 59 Lib.Math.min.name) (List.mem_of_getElem? (i := 2) rfl)) (hts (.static Lib.Math.min.name) (List.mem_of_getElem? (i := 3) rfl)) (hts (.initialized "java/lang/Math") (List.mem_of_getElem? (i := 4) rfl)) (hts (.code Lib.Math.min.name Lib.Math.min.code 2 (some .int)) (List.mem_of_getElem? (i := 5) rfl)) (Nat.le_of_ble_eq_true rfl) (Nat.le_of_ble_eq_true rfl) (Nat.le_of_ble_eq_true rfl) (Nat.le_of_ble_eq_true rfl) dX1_foul_15 ?_
  refine lv_topi (fun x10 ex10 => ?_)
  replace hf := nm_i hf ex10
  obtain ⟨hi11, hf⟩ := ix_i hf
  refine va_iast hx hb hK hP (va_D_adr hD rfl) hS 3 0 rfl rfl hi11 dX1_foul_18 (fun H locs hP _ hS => ?_)
  obtain ⟨u12, eu12⟩ : ∃ z : TS, z = S_fo_ u_st (upd (S_fo u_st) p0.toNatClampNeg x10) := ⟨_, rfl⟩
  replace hf := nm_i hf eu12
  have hP : va_P D vwCl (List.flatten [wS cT g b u12]) H := by rw [eu12]; exact hP
  obtain rfl := Option.some.inj hf
  subst hQ
  exact en_v hx hb hr hP hS hlocks dX1_foul_19
theorem iw_X1_settle_X1 : ∀ w ∈ u_ws RX1 TX1 9, w ∈ wsX1_settle := by decide +kernel
def f_X1_settle (fu : Nat) (u_st : TS) (p0 : Int32) (p1 : Int32) : Option (TS) :=
ix p0 60 <|
nm ((S_lv u_st) p0.toNatClampNeg) fun (x19 : Int32) =>
nm (x19 - (-9999 : Int32)) fun (x20 : Int32) =>
nm (if x20 < p1 then x20 else p1) fun (x21 : Int32) =>
ix p0 60 <|
nm ((S_lv u_st) p0.toNatClampNeg) fun (x23 : Int32) =>
nm (x23 - x21) fun (x24 : Int32) =>
ix p0 60 <|
nm (S_lv_ u_st (upd (S_lv u_st) p0.toNatClampNeg x24)) fun (u26 : TS) =>
ix p0 60 <|
nm ((S_se u26) p0.toNatClampNeg) fun (x28 : Int32) =>
nm (x28 + x21) fun (x29 : Int32) =>
ix p0 60 <|
nm (S_se_ u26 (upd (S_se u26) p0.toNatClampNeg x29)) fun (u31 : TS) =>
nm (S_ac u31 0) fun (x32 : Int32) =>
nm (x32 + x21) fun (x33 : Int32) =>
nm (S_ac_ u31 (upd (S_ac u31) 0 x33)) fun (u34 : TS) =>
some (u34)

abbrev rm_X1_settle : Room := { frames := 1, cells := 0, slots := 0, locals := 40 }
set_option maxHeartbeats 4000000 in
set_option maxRecDepth 100000 in
theorem c_X1_settle (l : Launch) (D : va_G) (cT : Nat → ClassId) (g : Nat → Nat) (b : Nat) (fu : Nat) (u_st : TS) (p0 : Int32) (p1 : Int32) (o : TS) (hf : f_X1_settle fu u_st p0 p1 = some o) (sz : Nat) : Met l yX1_settle wsX1_settle rm_X1_settle (va_Pc [.ref (g b), .int p0, .int p1] (PRE D cT sz (List.flatten [wS cT g b u_st]))) (QV D (List.flatten [wS cT g b o]) (va_A (List.flatten [wS cT g b u_st]) sz)) 0 0 (va_A (List.flatten [wS cT g b u_st]) sz) := by
  refine Met.ofW (cc := cX1_settle) (maxL := 4) (ret := none) (by decide) rfl ?_
  intro p e s m args below meth c s₁ B0 hml hv
  obtain ⟨hav, hsz, hP, hK, hD, hN, hZ⟩ := hv
  have hx := B0.exec
  have hb := B0.bytes
  have hr := B0.returns
  have hts := atoms_spec (ws := wsX1_settle) B0.pre
  have hown : s.vm.findClass RX1 = some m.cls := findClass_of_methodNamed B0.named
  have hlocks := B0.notSynchronized
  subst hsz
  have hD := hD.self (sz := s.heap.size)
  have hA : ∀ q : Nat, s.heap.size ≤ q → va_A (List.flatten [wS cT g b u_st]) s.heap.size q := fun q h => Or.inr h
  generalize va_A (List.flatten [wS cT g b u_st]) s.heap.size = A at hD hZ hA ⊢
  have hS : va_S A s.heap s.heap [] := va_S.rf
  have hl := lv_entry ([.ref (g b), .int p0, .int p1]) (n := 4) (Nat.le_of_ble_eq_true rfl)
  rw [hav]
  rw [lg_entry_eq]
  generalize (lg_sl ([.ref (g b), .int p0, .int p1]) ++ List.replicate (4 - (lg_sl ([.ref (g b), .int p0, .int p1])).length) Slot.unset).toArray = ls at hl ⊢
  have hl : lv_has ls 4 [(0, .ref (g b)), (1, .int p0), (2, .int p1)] := hl
  rw [← hav]
  generalize hQ : MQ below _ _ _ _ _ _ = Q
  show W p l e rm_X1_settle s m args below meth c s.heap [] 0 0 Q (F0 m 0 ls [])
  unfold f_X1_settle at hf
  refine lv_iload_n hx hb dX1_settle_0 rfl (lv_at hl 2 rfl) ?_
  refine lv_aload_n hx hb dX1_settle_1 rfl (lv_at hl 0 rfl) ?_
  refine va_get (ci := 1) (v := .ref (g (b + 2))) (C := RX1) (T := TX1) (N := 9) hx hb hts iw_X1_settle_X1 hown hK hP 0 rfl rfl 3 (by decide) (hts (.fieldLink RX1 22 "BallastTrack$State" "levels" "[I") (List.mem_of_getElem? (i := 1) rfl)) (fun _ h9 => h9) rfl dX1_settle_2 ?_
  refine lv_iload_n hx hb dX1_settle_5 rfl (lv_at hl 1 rfl) ?_
  obtain ⟨hi18, hf⟩ := ix_i hf
  refine va_iald hx hb hK hP 2 0 rfl rfl hi18 dX1_settle_6 ?_
  refine lv_topi (fun x19 ex19 => ?_)
  replace hf := nm_i hf ex19
  refine lv_sipush (v := -9999) hx hb dX1_settle_7 (by decide) ?_
  refine lv_isub hx hb dX1_settle_10 ?_
  refine lv_topi (fun x20 ex20 => ?_)
  replace hf := nm_i hf ex20
  refine va_mmin hx hb (by rw [hml]; exact hl.1.symm) hown (hts (.methodLink RX1 59 Lib.Math.min.name) (List.mem_of_getElem? (i := 2) rfl)) (hts (.static Lib.Math.min.name) (List.mem_of_getElem? (i := 3) rfl)) (hts (.initialized "java/lang/Math") (List.mem_of_getElem? (i := 4) rfl)) (hts (.code Lib.Math.min.name Lib.Math.min.code 2 (some .int)) (List.mem_of_getElem? (i := 5) rfl)) (Nat.le_of_ble_eq_true rfl) (Nat.le_of_ble_eq_true rfl) (Nat.le_of_ble_eq_true rfl) (Nat.le_of_ble_eq_true rfl) dX1_settle_11 ?_
  refine lv_topi (fun x21 ex21 => ?_)
  replace hf := nm_i hf ex21
  refine lv_istore_n (lv' := [(3, .int x21), (0, .ref (g b)), (1, .int p0), (2, .int p1)]) hx hb dX1_settle_14 rfl hl (by decide) rfl (fun ls hl => ?_)
  refine lv_aload_n hx hb dX1_settle_15 rfl (lv_at hl 1 rfl) ?_
  refine va_get (ci := 1) (v := .ref (g (b + 2))) (C := RX1) (T := TX1) (N := 9) hx hb hts iw_X1_settle_X1 hown hK hP 0 rfl rfl 3 (by decide) (hts (.fieldLink RX1 22 "BallastTrack$State" "levels" "[I") (List.mem_of_getElem? (i := 1) rfl)) (fun _ h9 => h9) rfl dX1_settle_16 ?_
  refine lv_iload_n hx hb dX1_settle_19 rfl (lv_at hl 2 rfl) ?_
  refine lv_dup2_11 hx hb dX1_settle_20 rfl rfl ?_
  obtain ⟨hi22, hf⟩ := ix_i hf
  refine va_iald hx hb hK hP 2 0 rfl rfl hi22 dX1_settle_21 ?_
  refine lv_topi (fun x23 ex23 => ?_)
  replace hf := nm_i hf ex23
  refine lv_iload_n hx hb dX1_settle_22 rfl (lv_at hl 0 rfl) ?_
  refine lv_isub hx hb dX1_settle_23 ?_
  refine lv_topi (fun x24 ex24 => ?_)
  replace hf := nm_i hf ex24
  obtain ⟨hi25, hf⟩ := ix_i hf
  refine va_iast hx hb hK hP (va_D_adr hD rfl) hS 2 0 rfl rfl hi25 dX1_settle_24 (fun H locs hP _ hS => ?_)
  obtain ⟨u26, eu26⟩ : ∃ z : TS, z = S_lv_ u_st (upd (S_lv u_st) p0.toNatClampNeg x24) := ⟨_, rfl⟩
  replace hf := nm_i hf eu26
  have hP : va_P D vwCl (List.flatten [wS cT g b u26]) H := by rw [eu26]; exact hP
  refine lv_aload_n hx hb dX1_settle_25 rfl (lv_at hl 1 rfl) ?_
  refine va_get (ci := 1) (v := .ref (g (b + 4))) (C := RX1) (T := TX1) (N := 9) hx hb hts iw_X1_settle_X1 hown hK hP 0 rfl rfl 5 (by decide) (hts (.fieldLink RX1 28 "BallastTrack$State" "settled" "[I") (List.mem_of_getElem? (i := 6) rfl)) (fun _ h9 => h9) rfl dX1_settle_26 ?_
  refine lv_iload_n hx hb dX1_settle_29 rfl (lv_at hl 2 rfl) ?_
  refine lv_dup2_11 hx hb dX1_settle_30 rfl rfl ?_
  obtain ⟨hi27, hf⟩ := ix_i hf
  refine va_iald hx hb hK hP 4 0 rfl rfl hi27 dX1_settle_31 ?_
  refine lv_topi (fun x28 ex28 => ?_)
  replace hf := nm_i hf ex28
  refine lv_iload_n hx hb dX1_settle_32 rfl (lv_at hl 0 rfl) ?_
  refine lv_iadd hx hb dX1_settle_33 ?_
  refine lv_topi (fun x29 ex29 => ?_)
  replace hf := nm_i hf ex29
  obtain ⟨hi30, hf⟩ := ix_i hf
  refine va_iast hx hb hK hP (va_D_adr hD rfl) hS 4 0 rfl rfl hi30 dX1_settle_34 (fun H locs hP _ hS => ?_)
  obtain ⟨u31, eu31⟩ : ∃ z : TS, z = S_se_ u26 (upd (S_se u26) p0.toNatClampNeg x29) := ⟨_, rfl⟩
  replace hf := nm_i hf eu31
  have hP : va_P D vwCl (List.flatten [wS cT g b u31]) H := by rw [eu31]; exact hP
  refine lv_aload_n hx hb dX1_settle_35 rfl (lv_at hl 1 rfl) ?_
  refine va_get (ci := 1) (v := .ref (g (b + 7))) (C := RX1) (T := TX1) (N := 9) hx hb hts iw_X1_settle_X1 hown hK hP 0 rfl rfl 8 (by decide) (hts (.fieldLink RX1 37 "BallastTrack$State" "accounts" "[I") (List.mem_of_getElem? (i := 7) rfl)) (fun _ h9 => h9) rfl dX1_settle_36 ?_
  refine lv_iconst (v := 0) hx hb dX1_settle_39 (by decide) ?_
  refine lv_dup2_11 hx hb dX1_settle_40 rfl rfl ?_
  refine va_iald hx hb hK hP 7 0 rfl rfl (by unfold vp_in; decide) dX1_settle_41 ?_
  refine lv_topi (fun x32 ex32 => ?_)
  replace hf := nm_i hf ex32
  refine lv_iload_n hx hb dX1_settle_42 rfl (lv_at hl 0 rfl) ?_
  refine lv_iadd hx hb dX1_settle_43 ?_
  refine lv_topi (fun x33 ex33 => ?_)
  replace hf := nm_i hf ex33
  refine va_iast hx hb hK hP (va_D_adr hD rfl) hS 7 0 rfl rfl (by unfold vp_in; decide) dX1_settle_44 (fun H locs hP _ hS => ?_)
  obtain ⟨u34, eu34⟩ : ∃ z : TS, z = S_ac_ u31 (upd (S_ac u31) 0 x33) := ⟨_, rfl⟩
  replace hf := nm_i hf eu34
  have hP : va_P D vwCl (List.flatten [wS cT g b u34]) H := by rw [eu34]; exact hP
  obtain rfl := Option.some.inj hf
  subst hQ
  exact en_v hx hb hr hP hS hlocks dX1_settle_45
theorem iw_X1_raise_X1 : ∀ w ∈ u_ws RX1 TX1 9, w ∈ wsX1_raise := by decide +kernel
def f_X1_raise (fu : Nat) (u_st : TS) (p0 : Int32) (p1 : Int32) : Option (TS) :=
ix p0 60 <|
nm ((S_lv u_st) p0.toNatClampNeg) fun (x16 : Int32) =>
nm (x16 + p1) fun (x17 : Int32) =>
ix p0 60 <|
nm (S_lv_ u_st (upd (S_lv u_st) p0.toNatClampNeg x17)) fun (u19 : TS) =>
ix p0 60 <|
nm ((S_li u19) p0.toNatClampNeg) fun (x21 : Int32) =>
nm (x21 + p1) fun (x22 : Int32) =>
ix p0 60 <|
nm (S_li_ u19 (upd (S_li u19) p0.toNatClampNeg x22)) fun (u24 : TS) =>
nm (S_ac u24 1) fun (x25 : Int32) =>
nm (x25 + p1) fun (x26 : Int32) =>
nm (S_ac_ u24 (upd (S_ac u24) 1 x26)) fun (u27 : TS) =>
bd (f_X1_foul fu u27 p0 ((3 : Int32))) fun (o28 : TS) =>
some (o28)

abbrev rm_X1_raise : Room := { frames := 2, cells := 0, slots := 0, locals := 62 }
set_option maxHeartbeats 4000000 in
set_option maxRecDepth 100000 in
theorem c_X1_raise (l : Launch) (D : va_G) (cT : Nat → ClassId) (g : Nat → Nat) (b : Nat) (fu : Nat) (u_st : TS) (p0 : Int32) (p1 : Int32) (o : TS) (hf : f_X1_raise fu u_st p0 p1 = some o) (sz : Nat) : Met l yX1_raise wsX1_raise rm_X1_raise (va_Pc [.ref (g b), .int p0, .int p1] (PRE D cT sz (List.flatten [wS cT g b u_st]))) (QV D (List.flatten [wS cT g b o]) (va_A (List.flatten [wS cT g b u_st]) sz)) 0 0 (va_A (List.flatten [wS cT g b u_st]) sz) := by
  refine Met.ofW (cc := cX1_raise) (maxL := 3) (ret := none) (by decide) rfl ?_
  intro p e s m args below meth c s₁ B0 hml hv
  obtain ⟨hav, hsz, hP, hK, hD, hN, hZ⟩ := hv
  have hx := B0.exec
  have hb := B0.bytes
  have hr := B0.returns
  have hts := atoms_spec (ws := wsX1_raise) B0.pre
  have hown : s.vm.findClass RX1 = some m.cls := findClass_of_methodNamed B0.named
  have hlocks := B0.notSynchronized
  subst hsz
  have hD := hD.self (sz := s.heap.size)
  have hA : ∀ q : Nat, s.heap.size ≤ q → va_A (List.flatten [wS cT g b u_st]) s.heap.size q := fun q h => Or.inr h
  generalize va_A (List.flatten [wS cT g b u_st]) s.heap.size = A at hD hZ hA ⊢
  have hS : va_S A s.heap s.heap [] := va_S.rf
  have hl := lv_entry ([.ref (g b), .int p0, .int p1]) (n := 3) (Nat.le_of_ble_eq_true rfl)
  rw [hav]
  rw [lg_entry_eq]
  generalize (lg_sl ([.ref (g b), .int p0, .int p1]) ++ List.replicate (3 - (lg_sl ([.ref (g b), .int p0, .int p1])).length) Slot.unset).toArray = ls at hl ⊢
  have hl : lv_has ls 3 [(0, .ref (g b)), (1, .int p0), (2, .int p1)] := hl
  rw [← hav]
  generalize hQ : MQ below _ _ _ _ _ _ = Q
  show W p l e rm_X1_raise s m args below meth c s.heap [] 0 0 Q (F0 m 0 ls [])
  unfold f_X1_raise at hf
  refine lv_aload_n hx hb dX1_raise_0 rfl (lv_at hl 0 rfl) ?_
  refine va_get (ci := 1) (v := .ref (g (b + 2))) (C := RX1) (T := TX1) (N := 9) hx hb hts iw_X1_raise_X1 hown hK hP 0 rfl rfl 3 (by decide) (hts (.fieldLink RX1 22 "BallastTrack$State" "levels" "[I") (List.mem_of_getElem? (i := 1) rfl)) (fun _ h9 => h9) rfl dX1_raise_1 ?_
  refine lv_iload_n hx hb dX1_raise_4 rfl (lv_at hl 1 rfl) ?_
  refine lv_dup2_11 hx hb dX1_raise_5 rfl rfl ?_
  obtain ⟨hi15, hf⟩ := ix_i hf
  refine va_iald hx hb hK hP 2 0 rfl rfl hi15 dX1_raise_6 ?_
  refine lv_topi (fun x16 ex16 => ?_)
  replace hf := nm_i hf ex16
  refine lv_iload_n hx hb dX1_raise_7 rfl (lv_at hl 2 rfl) ?_
  refine lv_iadd hx hb dX1_raise_8 ?_
  refine lv_topi (fun x17 ex17 => ?_)
  replace hf := nm_i hf ex17
  obtain ⟨hi18, hf⟩ := ix_i hf
  refine va_iast hx hb hK hP (va_D_adr hD rfl) hS 2 0 rfl rfl hi18 dX1_raise_9 (fun H locs hP _ hS => ?_)
  obtain ⟨u19, eu19⟩ : ∃ z : TS, z = S_lv_ u_st (upd (S_lv u_st) p0.toNatClampNeg x17) := ⟨_, rfl⟩
  replace hf := nm_i hf eu19
  have hP : va_P D vwCl (List.flatten [wS cT g b u19]) H := by rw [eu19]; exact hP
  refine lv_aload_n hx hb dX1_raise_10 rfl (lv_at hl 0 rfl) ?_
  refine va_get (ci := 1) (v := .ref (g (b + 5))) (C := RX1) (T := TX1) (N := 9) hx hb hts iw_X1_raise_X1 hown hK hP 0 rfl rfl 6 (by decide) (hts (.fieldLink RX1 31 "BallastTrack$State" "lifted" "[I") (List.mem_of_getElem? (i := 2) rfl)) (fun _ h9 => h9) rfl dX1_raise_11 ?_
  refine lv_iload_n hx hb dX1_raise_14 rfl (lv_at hl 1 rfl) ?_
  refine lv_dup2_11 hx hb dX1_raise_15 rfl rfl ?_
  obtain ⟨hi20, hf⟩ := ix_i hf
  refine va_iald hx hb hK hP 5 0 rfl rfl hi20 dX1_raise_16 ?_
  refine lv_topi (fun x21 ex21 => ?_)
  replace hf := nm_i hf ex21
  refine lv_iload_n hx hb dX1_raise_17 rfl (lv_at hl 2 rfl) ?_
  refine lv_iadd hx hb dX1_raise_18 ?_
  refine lv_topi (fun x22 ex22 => ?_)
  replace hf := nm_i hf ex22
  obtain ⟨hi23, hf⟩ := ix_i hf
  refine va_iast hx hb hK hP (va_D_adr hD rfl) hS 5 0 rfl rfl hi23 dX1_raise_19 (fun H locs hP _ hS => ?_)
  obtain ⟨u24, eu24⟩ : ∃ z : TS, z = S_li_ u19 (upd (S_li u19) p0.toNatClampNeg x22) := ⟨_, rfl⟩
  replace hf := nm_i hf eu24
  have hP : va_P D vwCl (List.flatten [wS cT g b u24]) H := by rw [eu24]; exact hP
  refine lv_aload_n hx hb dX1_raise_20 rfl (lv_at hl 0 rfl) ?_
  refine va_get (ci := 1) (v := .ref (g (b + 7))) (C := RX1) (T := TX1) (N := 9) hx hb hts iw_X1_raise_X1 hown hK hP 0 rfl rfl 8 (by decide) (hts (.fieldLink RX1 37 "BallastTrack$State" "accounts" "[I") (List.mem_of_getElem? (i := 3) rfl)) (fun _ h9 => h9) rfl dX1_raise_21 ?_
  refine lv_iconst (v := 1) hx hb dX1_raise_24 (by decide) ?_
  refine lv_dup2_11 hx hb dX1_raise_25 rfl rfl ?_
  refine va_iald hx hb hK hP 7 0 rfl rfl (by unfold vp_in; decide) dX1_raise_26 ?_
  refine lv_topi (fun x25 ex25 => ?_)
  replace hf := nm_i hf ex25
  refine lv_iload_n hx hb dX1_raise_27 rfl (lv_at hl 2 rfl) ?_
  refine lv_iadd hx hb dX1_raise_28 ?_
  refine lv_topi (fun x26 ex26 => ?_)
  replace hf := nm_i hf ex26
  refine va_iast hx hb hK hP (va_D_adr hD rfl) hS 7 0 rfl rfl (by unfold vp_in; decide) dX1_raise_29 (fun H locs hP _ hS => ?_)
  obtain ⟨u27, eu27⟩ : ∃ z : TS, z = S_ac_ u24 (upd (S_ac u24) 1 x26) := ⟨_, rfl⟩
  replace hf := nm_i hf eu27
  have hP : va_P D vwCl (List.flatten [wS cT g b u27]) H := by rw [eu27]; exact hP
  refine lv_aload_n hx hb dX1_raise_30 rfl (lv_at hl 0 rfl) ?_
  refine lv_iload_n hx hb dX1_raise_31 rfl (lv_at hl 1 rfl) ?_
  refine lv_iconst (v := 3) hx hb dX1_raise_32 (by decide) ?_
  obtain ⟨o28, ho28, hf⟩ := bd_i hf
  refine cl_v [0] [] [wS cT g b o28] hP (va_D_adr hD rfl) hA hS (va_runV (As := [.int p0, .int ((3 : Int32))]) (rest := []) ⟨hx, hb, hml, hown, hts⟩ (c_X1_foul l D cT g b fu u27 p0 ((3 : Int32)) o28 ho28 _) (cwV 2 hts gX1_raise_X1_foul rfl rfl rfl (by decide +kernel) ⟨Nat.le_of_ble_eq_true rfl, Nat.le_of_ble_eq_true rfl⟩) ⟨PRE_blind, va_recv hK hP (ci := 1) (q0 := 0) rfl rfl, PRE_ok [0] (by decide) hP (va_D_adr hD rfl) hA hS hK hN hZ⟩ rfl rfl hl.1 rfl (lv_room (Nat.le_of_ble_eq_true rfl)) dX1_raise_33 ⟨Nat.le_of_ble_eq_true rfl, Nat.le_of_ble_eq_true rfl⟩) rfl 1 rfl (by decide) (by decide) (fun H locs hP hS => ?_)
  obtain rfl := Option.some.inj hf
  subst hQ
  exact en_v hx hb hr hP hS hlocks dX1_raise_36
theorem iw_X1_liftOf_X1 : ∀ w ∈ u_ws RX1 TX1 9, w ∈ wsX1_liftOf := by decide +kernel
def f_X1_liftOf (fu : Nat) (u_st : TS) (p0 : Int32) (p1 : Int32) : Option (Int32) :=
ix p0 60 <|
nm ((S_lv u_st) p0.toNatClampNeg) fun (x9 : Int32) =>
nm (p1 - x9) fun (x10 : Int32) =>
nm (S_nu u_st 6) fun (x11 : Int32) =>
nm (if x11 < x10 then x11 else x10) fun (x12 : Int32) =>
nm (S_nu u_st 7) fun (x13 : Int32) =>
if x13 ≤ x12 then (
some (x12)
)
else (
some ((0 : Int32))
)

abbrev rm_X1_liftOf : Room := { frames := 1, cells := 0, slots := 0, locals := 40 }
set_option maxHeartbeats 4000000 in
set_option maxRecDepth 100000 in
theorem c_X1_liftOf (l : Launch) (D : va_G) (cT : Nat → ClassId) (g : Nat → Nat) (b : Nat) (fu : Nat) (u_st : TS) (p0 : Int32) (p1 : Int32) (o : Int32) (hf : f_X1_liftOf fu u_st p0 p1 = some o) (sz : Nat) : Met l yX1_liftOf wsX1_liftOf rm_X1_liftOf (va_Pc [.ref (g b), .int p0, .int p1] (PRE D cT sz (List.flatten [wS cT g b u_st]))) (QI D o (List.flatten [wS cT g b u_st]) (va_A (List.flatten [wS cT g b u_st]) sz)) 0 0 (va_A (List.flatten [wS cT g b u_st]) sz) := by
  refine Met.ofW (cc := cX1_liftOf) (maxL := 4) (ret := (some .int)) (by decide) rfl ?_
  intro p e s m args below meth c s₁ B0 hml hv
  obtain ⟨hav, hsz, hP, hK, hD, hN, hZ⟩ := hv
  have hx := B0.exec
  have hb := B0.bytes
  have hr := B0.returns
  have hts := atoms_spec (ws := wsX1_liftOf) B0.pre
  have hown : s.vm.findClass RX1 = some m.cls := findClass_of_methodNamed B0.named
  have hlocks := B0.notSynchronized
  subst hsz
  have hD := hD.self (sz := s.heap.size)
  have hA : ∀ q : Nat, s.heap.size ≤ q → va_A (List.flatten [wS cT g b u_st]) s.heap.size q := fun q h => Or.inr h
  generalize va_A (List.flatten [wS cT g b u_st]) s.heap.size = A at hD hZ hA ⊢
  have hS : va_S A s.heap s.heap [] := va_S.rf
  have hl := lv_entry ([.ref (g b), .int p0, .int p1]) (n := 4) (Nat.le_of_ble_eq_true rfl)
  rw [hav]
  rw [lg_entry_eq]
  generalize (lg_sl ([.ref (g b), .int p0, .int p1]) ++ List.replicate (4 - (lg_sl ([.ref (g b), .int p0, .int p1])).length) Slot.unset).toArray = ls at hl ⊢
  have hl : lv_has ls 4 [(0, .ref (g b)), (1, .int p0), (2, .int p1)] := hl
  rw [← hav]
  generalize hQ : MQ below _ _ _ _ _ _ = Q
  show W p l e rm_X1_liftOf s m args below meth c s.heap [] 0 0 Q (F0 m 0 ls [])
  unfold f_X1_liftOf at hf
  refine lv_iload_n hx hb dX1_liftOf_0 rfl (lv_at hl 2 rfl) ?_
  refine lv_aload_n hx hb dX1_liftOf_1 rfl (lv_at hl 0 rfl) ?_
  refine va_get (ci := 1) (v := .ref (g (b + 2))) (C := RX1) (T := TX1) (N := 9) hx hb hts iw_X1_liftOf_X1 hown hK hP 0 rfl rfl 3 (by decide) (hts (.fieldLink RX1 22 "BallastTrack$State" "levels" "[I") (List.mem_of_getElem? (i := 1) rfl)) (fun _ h9 => h9) rfl dX1_liftOf_2 ?_
  refine lv_iload_n hx hb dX1_liftOf_5 rfl (lv_at hl 1 rfl) ?_
  obtain ⟨hi8, hf⟩ := ix_i hf
  refine va_iald hx hb hK hP 2 0 rfl rfl hi8 dX1_liftOf_6 ?_
  refine lv_topi (fun x9 ex9 => ?_)
  replace hf := nm_i hf ex9
  refine lv_isub hx hb dX1_liftOf_7 ?_
  refine lv_topi (fun x10 ex10 => ?_)
  replace hf := nm_i hf ex10
  refine lv_aload_n hx hb dX1_liftOf_8 rfl (lv_at hl 0 rfl) ?_
  refine va_get (ci := 1) (v := .ref (g (b + 1))) (C := RX1) (T := TX1) (N := 9) hx hb hts iw_X1_liftOf_X1 hown hK hP 0 rfl rfl 2 (by decide) (hts (.fieldLink RX1 18 "BallastTrack$State" "numbers" "[I") (List.mem_of_getElem? (i := 2) rfl)) (fun _ h9 => h9) rfl dX1_liftOf_9 ?_
  refine lv_bipush (v := 6) hx hb dX1_liftOf_12 (by decide) ?_
  refine va_iald hx hb hK hP 1 0 rfl rfl (by unfold vp_in; decide) dX1_liftOf_14 ?_
  refine lv_topi (fun x11 ex11 => ?_)
  replace hf := nm_i hf ex11
  refine va_mmin hx hb (by rw [hml]; exact hl.1.symm) hown (hts (.methodLink RX1 59 Lib.Math.min.name) (List.mem_of_getElem? (i := 3) rfl)) (hts (.static Lib.Math.min.name) (List.mem_of_getElem? (i := 4) rfl)) (hts (.initialized "java/lang/Math") (List.mem_of_getElem? (i := 5) rfl)) (hts (.code Lib.Math.min.name Lib.Math.min.code 2 (some .int)) (List.mem_of_getElem? (i := 6) rfl)) (Nat.le_of_ble_eq_true rfl) (Nat.le_of_ble_eq_true rfl) (Nat.le_of_ble_eq_true rfl) (Nat.le_of_ble_eq_true rfl) dX1_liftOf_15 ?_
  refine lv_topi (fun x12 ex12 => ?_)
  replace hf := nm_i hf ex12
  refine lv_istore_n (lv' := [(3, .int x12), (0, .ref (g b)), (1, .int p0), (2, .int p1)]) hx hb dX1_liftOf_18 rfl hl (by decide) rfl (fun ls hl => ?_)
  refine lv_iload_n hx hb dX1_liftOf_19 rfl (lv_at hl 0 rfl) ?_
  refine lv_aload_n hx hb dX1_liftOf_20 rfl (lv_at hl 1 rfl) ?_
  refine va_get (ci := 1) (v := .ref (g (b + 1))) (C := RX1) (T := TX1) (N := 9) hx hb hts iw_X1_liftOf_X1 hown hK hP 0 rfl rfl 2 (by decide) (hts (.fieldLink RX1 18 "BallastTrack$State" "numbers" "[I") (List.mem_of_getElem? (i := 2) rfl)) (fun _ h9 => h9) rfl dX1_liftOf_21 ?_
  refine lv_bipush (v := 7) hx hb dX1_liftOf_24 (by decide) ?_
  refine va_iald hx hb hK hP 1 0 rfl rfl (by unfold vp_in; decide) dX1_liftOf_26 ?_
  refine lv_topi (fun x13 ex13 => ?_)
  replace hf := nm_i hf ex13
  refine lv_icmp_ge (tgt := 34) hx hb dX1_liftOf_27 (by decide) (fun c14 => ?_) (fun c14 => ?_)
  · replace hf := it_t hf c14
    refine lv_iload_n hx hb dX1_liftOf_34 rfl (lv_at hl 0 rfl) ?_
    obtain rfl := Option.some.inj hf
    subst hQ
    exact en_i hx hb hr hP hS hlocks dX1_liftOf_35
  · replace hf := it_f hf c14
    refine lv_iconst (v := 0) hx hb dX1_liftOf_30 (by decide) ?_
    refine lv_goto (tgt := 35) hx hb dX1_liftOf_31 (by decide) ?_
    obtain rfl := Option.some.inj hf
    subst hQ
    exact en_i hx hb hr hP hS hlocks dX1_liftOf_35
theorem iw_X1_jobValue_X1 : ∀ w ∈ u_ws RX1 TX1 9, w ∈ wsX1_jobValue := by decide +kernel
def f_X1_jobValue (fu : Nat) (u_st : TS) (p0 : Int32) (p1 : Int32) : Option (Int32) :=
nm (p0 * (4 : Int32)) fun (x5 : Int32) =>
nm (x5 + p1) fun (x6 : Int32) =>
ix x6 24 <|
nm ((S_jr u_st) x6.toNatClampNeg) fun (x8 : Int32) =>
some (x8)

abbrev rm_X1_jobValue : Room := { frames := 0, cells := 0, slots := 0, locals := 0 }
set_option maxHeartbeats 4000000 in
set_option maxRecDepth 100000 in
theorem c_X1_jobValue (l : Launch) (D : va_G) (cT : Nat → ClassId) (g : Nat → Nat) (b : Nat) (fu : Nat) (u_st : TS) (p0 : Int32) (p1 : Int32) (o : Int32) (hf : f_X1_jobValue fu u_st p0 p1 = some o) (sz : Nat) : Met l yX1_jobValue wsX1_jobValue rm_X1_jobValue (va_Pc [.ref (g b), .int p0, .int p1] (PRE D cT sz (List.flatten [wS cT g b u_st]))) (QI D o (List.flatten [wS cT g b u_st]) (va_A (List.flatten [wS cT g b u_st]) sz)) 0 0 (va_A (List.flatten [wS cT g b u_st]) sz) := by
  refine Met.ofW (cc := cX1_jobValue) (maxL := 3) (ret := (some .int)) (by decide) rfl ?_
  intro p e s m args below meth c s₁ B0 hml hv
  obtain ⟨hav, hsz, hP, hK, hD, hN, hZ⟩ := hv
  have hx := B0.exec
  have hb := B0.bytes
  have hr := B0.returns
  have hts := atoms_spec (ws := wsX1_jobValue) B0.pre
  have hown : s.vm.findClass RX1 = some m.cls := findClass_of_methodNamed B0.named
  have hlocks := B0.notSynchronized
  subst hsz
  have hD := hD.self (sz := s.heap.size)
  have hA : ∀ q : Nat, s.heap.size ≤ q → va_A (List.flatten [wS cT g b u_st]) s.heap.size q := fun q h => Or.inr h
  generalize va_A (List.flatten [wS cT g b u_st]) s.heap.size = A at hD hZ hA ⊢
  have hS : va_S A s.heap s.heap [] := va_S.rf
  have hl := lv_entry ([.ref (g b), .int p0, .int p1]) (n := 3) (Nat.le_of_ble_eq_true rfl)
  rw [hav]
  rw [lg_entry_eq]
  generalize (lg_sl ([.ref (g b), .int p0, .int p1]) ++ List.replicate (3 - (lg_sl ([.ref (g b), .int p0, .int p1])).length) Slot.unset).toArray = ls at hl ⊢
  have hl : lv_has ls 3 [(0, .ref (g b)), (1, .int p0), (2, .int p1)] := hl
  rw [← hav]
  generalize hQ : MQ below _ _ _ _ _ _ = Q
  show W p l e rm_X1_jobValue s m args below meth c s.heap [] 0 0 Q (F0 m 0 ls [])
  unfold f_X1_jobValue at hf
  refine lv_aload_n hx hb dX1_jobValue_0 rfl (lv_at hl 0 rfl) ?_
  refine va_get (ci := 1) (v := .ref (g (b + 6))) (C := RX1) (T := TX1) (N := 9) hx hb hts iw_X1_jobValue_X1 hown hK hP 0 rfl rfl 7 (by decide) (hts (.fieldLink RX1 34 "BallastTrack$State" "jobRows" "[I") (List.mem_of_getElem? (i := 1) rfl)) (fun _ h9 => h9) rfl dX1_jobValue_1 ?_
  refine lv_iload_n hx hb dX1_jobValue_4 rfl (lv_at hl 1 rfl) ?_
  refine lv_iconst (v := 4) hx hb dX1_jobValue_5 (by decide) ?_
  refine lv_imul hx hb dX1_jobValue_6 ?_
  refine lv_topi (fun x5 ex5 => ?_)
  replace hf := nm_i hf ex5
  refine lv_iload_n hx hb dX1_jobValue_7 rfl (lv_at hl 2 rfl) ?_
  refine lv_iadd hx hb dX1_jobValue_8 ?_
  refine lv_topi (fun x6 ex6 => ?_)
  replace hf := nm_i hf ex6
  obtain ⟨hi7, hf⟩ := ix_i hf
  refine va_iald hx hb hK hP 6 0 rfl rfl hi7 dX1_jobValue_9 ?_
  refine lv_topi (fun x8 ex8 => ?_)
  replace hf := nm_i hf ex8
  obtain rfl := Option.some.inj hf
  subst hQ
  exact en_i hx hb hr hP hS hlocks dX1_jobValue_10
theorem iw_X1_appendJob_X1 : ∀ w ∈ u_ws RX1 TX1 9, w ∈ wsX1_appendJob := by decide +kernel
def f_X1_appendJob (fu : Nat) (u_st : TS) (p0 : Int32) (p1 : Int32) (p2 : Int32) : Option (TS) :=
nm (S_jb u_st) fun (x18 : Int32) =>
nm (x18 * (4 : Int32)) fun (x19 : Int32) =>
nm (x19 + (0 : Int32)) fun (x20 : Int32) =>
ix x20 24 <|
nm (S_jr_ u_st (upd (S_jr u_st) x20.toNatClampNeg p0)) fun (u22 : TS) =>
nm (x19 + (1 : Int32)) fun (x23 : Int32) =>
ix x23 24 <|
nm (S_jr_ u22 (upd (S_jr u22) x23.toNatClampNeg p1)) fun (u25 : TS) =>
nm (x19 + (2 : Int32)) fun (x26 : Int32) =>
ix x26 24 <|
nm (S_jr_ u25 (upd (S_jr u25) x26.toNatClampNeg p2)) fun (u28 : TS) =>
nm (x19 + (3 : Int32)) fun (x29 : Int32) =>
ix x29 24 <|
nm (S_jr_ u28 (upd (S_jr u28) x29.toNatClampNeg p0)) fun (u31 : TS) =>
nm (S_jb u31) fun (x32 : Int32) =>
nm (x32 + (1 : Int32)) fun (x33 : Int32) =>
nm (S_jb_ u31 x33) fun (u34 : TS) =>
some (u34)

abbrev rm_X1_appendJob : Room := { frames := 0, cells := 0, slots := 0, locals := 0 }
set_option maxHeartbeats 4000000 in
set_option maxRecDepth 100000 in
theorem c_X1_appendJob (l : Launch) (D : va_G) (cT : Nat → ClassId) (g : Nat → Nat) (b : Nat) (fu : Nat) (u_st : TS) (p0 : Int32) (p1 : Int32) (p2 : Int32) (o : TS) (hf : f_X1_appendJob fu u_st p0 p1 p2 = some o) (sz : Nat) : Met l yX1_appendJob wsX1_appendJob rm_X1_appendJob (va_Pc [.ref (g b), .int p0, .int p1, .int p2] (PRE D cT sz (List.flatten [wS cT g b u_st]))) (QV D (List.flatten [wS cT g b o]) (va_A (List.flatten [wS cT g b u_st]) sz)) 0 0 (va_A (List.flatten [wS cT g b u_st]) sz) := by
  refine Met.ofW (cc := cX1_appendJob) (maxL := 5) (ret := none) (by decide) rfl ?_
  intro p e s m args below meth c s₁ B0 hml hv
  obtain ⟨hav, hsz, hP, hK, hD, hN, hZ⟩ := hv
  have hx := B0.exec
  have hb := B0.bytes
  have hr := B0.returns
  have hts := atoms_spec (ws := wsX1_appendJob) B0.pre
  have hown : s.vm.findClass RX1 = some m.cls := findClass_of_methodNamed B0.named
  have hlocks := B0.notSynchronized
  subst hsz
  have hD := hD.self (sz := s.heap.size)
  have hA : ∀ q : Nat, s.heap.size ≤ q → va_A (List.flatten [wS cT g b u_st]) s.heap.size q := fun q h => Or.inr h
  generalize va_A (List.flatten [wS cT g b u_st]) s.heap.size = A at hD hZ hA ⊢
  have hS : va_S A s.heap s.heap [] := va_S.rf
  have hl := lv_entry ([.ref (g b), .int p0, .int p1, .int p2]) (n := 5) (Nat.le_of_ble_eq_true rfl)
  rw [hav]
  rw [lg_entry_eq]
  generalize (lg_sl ([.ref (g b), .int p0, .int p1, .int p2]) ++ List.replicate (5 - (lg_sl ([.ref (g b), .int p0, .int p1, .int p2])).length) Slot.unset).toArray = ls at hl ⊢
  have hl : lv_has ls 5 [(0, .ref (g b)), (1, .int p0), (2, .int p1), (3, .int p2)] := hl
  rw [← hav]
  generalize hQ : MQ below _ _ _ _ _ _ = Q
  show W p l e rm_X1_appendJob s m args below meth c s.heap [] 0 0 Q (F0 m 0 ls [])
  unfold f_X1_appendJob at hf
  refine lv_aload_n hx hb dX1_appendJob_0 rfl (lv_at hl 0 rfl) ?_
  refine va_get (ci := 1) (v := .int (S_jb u_st)) (C := RX1) (T := TX1) (N := 9) hx hb hts iw_X1_appendJob_X1 hown hK hP 0 rfl rfl 1 (by decide) (hts (.fieldLink RX1 15 "BallastTrack$State" "jobs" "I") (List.mem_of_getElem? (i := 1) rfl)) (fun _ h9 => h9) rfl dX1_appendJob_1 ?_
  refine lv_topi (fun x18 ex18 => ?_)
  replace hf := nm_i hf ex18
  refine lv_iconst (v := 4) hx hb dX1_appendJob_4 (by decide) ?_
  refine lv_imul hx hb dX1_appendJob_5 ?_
  refine lv_topi (fun x19 ex19 => ?_)
  replace hf := nm_i hf ex19
  refine lv_istore (lv' := [(4, .int x19), (0, .ref (g b)), (1, .int p0), (2, .int p1), (3, .int p2)]) hx hb dX1_appendJob_6 hl (by decide) rfl (fun ls hl => ?_)
  refine lv_aload_n hx hb dX1_appendJob_8 rfl (lv_at hl 1 rfl) ?_
  refine va_get (ci := 1) (v := .ref (g (b + 6))) (C := RX1) (T := TX1) (N := 9) hx hb hts iw_X1_appendJob_X1 hown hK hP 0 rfl rfl 7 (by decide) (hts (.fieldLink RX1 34 "BallastTrack$State" "jobRows" "[I") (List.mem_of_getElem? (i := 2) rfl)) (fun _ h9 => h9) rfl dX1_appendJob_9 ?_
  refine lv_iload hx hb dX1_appendJob_12 (lv_at hl 0 rfl) ?_
  refine lv_iconst (v := 0) hx hb dX1_appendJob_14 (by decide) ?_
  refine lv_iadd hx hb dX1_appendJob_15 ?_
  refine lv_topi (fun x20 ex20 => ?_)
  replace hf := nm_i hf ex20
  refine lv_iload_n hx hb dX1_appendJob_16 rfl (lv_at hl 2 rfl) ?_
  obtain ⟨hi21, hf⟩ := ix_i hf
  refine va_iast hx hb hK hP (va_D_adr hD rfl) hS 6 0 rfl rfl hi21 dX1_appendJob_17 (fun H locs hP _ hS => ?_)
  obtain ⟨u22, eu22⟩ : ∃ z : TS, z = S_jr_ u_st (upd (S_jr u_st) x20.toNatClampNeg p0) := ⟨_, rfl⟩
  replace hf := nm_i hf eu22
  have hP : va_P D vwCl (List.flatten [wS cT g b u22]) H := by rw [eu22]; exact hP
  refine lv_aload_n hx hb dX1_appendJob_18 rfl (lv_at hl 1 rfl) ?_
  refine va_get (ci := 1) (v := .ref (g (b + 6))) (C := RX1) (T := TX1) (N := 9) hx hb hts iw_X1_appendJob_X1 hown hK hP 0 rfl rfl 7 (by decide) (hts (.fieldLink RX1 34 "BallastTrack$State" "jobRows" "[I") (List.mem_of_getElem? (i := 2) rfl)) (fun _ h9 => h9) rfl dX1_appendJob_19 ?_
  refine lv_iload hx hb dX1_appendJob_22 (lv_at hl 0 rfl) ?_
  refine lv_iconst (v := 1) hx hb dX1_appendJob_24 (by decide) ?_
  refine lv_iadd hx hb dX1_appendJob_25 ?_
  refine lv_topi (fun x23 ex23 => ?_)
  replace hf := nm_i hf ex23
  refine lv_iload_n hx hb dX1_appendJob_26 rfl (lv_at hl 3 rfl) ?_
  obtain ⟨hi24, hf⟩ := ix_i hf
  refine va_iast hx hb hK hP (va_D_adr hD rfl) hS 6 0 rfl rfl hi24 dX1_appendJob_27 (fun H locs hP _ hS => ?_)
  obtain ⟨u25, eu25⟩ : ∃ z : TS, z = S_jr_ u22 (upd (S_jr u22) x23.toNatClampNeg p1) := ⟨_, rfl⟩
  replace hf := nm_i hf eu25
  have hP : va_P D vwCl (List.flatten [wS cT g b u25]) H := by rw [eu25]; exact hP
  refine lv_aload_n hx hb dX1_appendJob_28 rfl (lv_at hl 1 rfl) ?_
  refine va_get (ci := 1) (v := .ref (g (b + 6))) (C := RX1) (T := TX1) (N := 9) hx hb hts iw_X1_appendJob_X1 hown hK hP 0 rfl rfl 7 (by decide) (hts (.fieldLink RX1 34 "BallastTrack$State" "jobRows" "[I") (List.mem_of_getElem? (i := 2) rfl)) (fun _ h9 => h9) rfl dX1_appendJob_29 ?_
  refine lv_iload hx hb dX1_appendJob_32 (lv_at hl 0 rfl) ?_
  refine lv_iconst (v := 2) hx hb dX1_appendJob_34 (by decide) ?_
  refine lv_iadd hx hb dX1_appendJob_35 ?_
  refine lv_topi (fun x26 ex26 => ?_)
  replace hf := nm_i hf ex26
  refine lv_iload_n hx hb dX1_appendJob_36 rfl (lv_at hl 4 rfl) ?_
  obtain ⟨hi27, hf⟩ := ix_i hf
  refine va_iast hx hb hK hP (va_D_adr hD rfl) hS 6 0 rfl rfl hi27 dX1_appendJob_37 (fun H locs hP _ hS => ?_)
  obtain ⟨u28, eu28⟩ : ∃ z : TS, z = S_jr_ u25 (upd (S_jr u25) x26.toNatClampNeg p2) := ⟨_, rfl⟩
  replace hf := nm_i hf eu28
  have hP : va_P D vwCl (List.flatten [wS cT g b u28]) H := by rw [eu28]; exact hP
  refine lv_aload_n hx hb dX1_appendJob_38 rfl (lv_at hl 1 rfl) ?_
  refine va_get (ci := 1) (v := .ref (g (b + 6))) (C := RX1) (T := TX1) (N := 9) hx hb hts iw_X1_appendJob_X1 hown hK hP 0 rfl rfl 7 (by decide) (hts (.fieldLink RX1 34 "BallastTrack$State" "jobRows" "[I") (List.mem_of_getElem? (i := 2) rfl)) (fun _ h9 => h9) rfl dX1_appendJob_39 ?_
  refine lv_iload hx hb dX1_appendJob_42 (lv_at hl 0 rfl) ?_
  refine lv_iconst (v := 3) hx hb dX1_appendJob_44 (by decide) ?_
  refine lv_iadd hx hb dX1_appendJob_45 ?_
  refine lv_topi (fun x29 ex29 => ?_)
  replace hf := nm_i hf ex29
  refine lv_iload_n hx hb dX1_appendJob_46 rfl (lv_at hl 2 rfl) ?_
  obtain ⟨hi30, hf⟩ := ix_i hf
  refine va_iast hx hb hK hP (va_D_adr hD rfl) hS 6 0 rfl rfl hi30 dX1_appendJob_47 (fun H locs hP _ hS => ?_)
  obtain ⟨u31, eu31⟩ : ∃ z : TS, z = S_jr_ u28 (upd (S_jr u28) x29.toNatClampNeg p0) := ⟨_, rfl⟩
  replace hf := nm_i hf eu31
  have hP : va_P D vwCl (List.flatten [wS cT g b u31]) H := by rw [eu31]; exact hP
  refine lv_aload_n hx hb dX1_appendJob_48 rfl (lv_at hl 1 rfl) ?_
  refine lv_dup hx hb dX1_appendJob_49 rfl ?_
  refine va_get (ci := 1) (v := .int (S_jb u31)) (C := RX1) (T := TX1) (N := 9) hx hb hts iw_X1_appendJob_X1 hown hK hP 0 rfl rfl 1 (by decide) (hts (.fieldLink RX1 15 "BallastTrack$State" "jobs" "I") (List.mem_of_getElem? (i := 1) rfl)) (fun _ h9 => h9) rfl dX1_appendJob_50 ?_
  refine lv_topi (fun x32 ex32 => ?_)
  replace hf := nm_i hf ex32
  refine lv_iconst (v := 1) hx hb dX1_appendJob_53 (by decide) ?_
  refine lv_iadd hx hb dX1_appendJob_54 ?_
  refine lv_topi (fun x33 ex33 => ?_)
  replace hf := nm_i hf ex33
  refine va_put (ci := 1) (v := .int x33) (ty := .int) (C := RX1) (T := TX1) (N := 9) hx hb hts iw_X1_appendJob_X1 tyX1 tyX1_ok nmX1 hown hK hP (va_D_adr hD rfl) hS 0 rfl rfl 1 (by decide) (hts (.fieldLink RX1 15 "BallastTrack$State" "jobs" "I") (List.mem_of_getElem? (i := 1) rfl)) (fun _ h9 => h9) rfl (by decide +kernel) rfl rfl (Nat.le_of_ble_eq_true rfl) dX1_appendJob_55 (fun H locs hP _ hS => ?_)
  obtain ⟨u34, eu34⟩ : ∃ z : TS, z = S_jb_ u31 x33 := ⟨_, rfl⟩
  replace hf := nm_i hf eu34
  have hP : va_P D vwCl (List.flatten [wS cT g b u34]) H := by rw [eu34]; exact hP
  obtain rfl := Option.some.inj hf
  subst hQ
  exact en_v hx hb hr hP hS hlocks dX1_appendJob_58
