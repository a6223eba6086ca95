theorem iw_X5_appendCharacter_X5 : ∀ w ∈ u_ws RX5 TX5 12, w ∈ wsX5_appendCharacter := by decide +kernel
def f_X5_appendCharacter (fu : Nat) (u_mo : TM) (p0 : Int32) : Option (Int32 × TM) :=
bd (f_X5_in fu  p0 ((0 : Int32)) ((255 : Int32))) fun (o13 : Bool) =>
if ¬ bI o13 = 0 then (
nm (M_ty u_mo) fun (x15 : Int32) =>
if ¬ x15 = (100 : Int32) then (
nm (M_ty u_mo) fun (x17 : Int32) =>
nm (p0.toInt8.toInt32) fun (x18 : Int32) =>
ix x17 100 <|
nm (M_tx_ u_mo (upd (M_tx u_mo) x17.toNatClampNeg (vp_nar .byte x18))) fun (u20 : TM) =>
nm (M_ty u20) fun (x21 : Int32) =>
nm (x21 + (1 : Int32)) fun (x22 : Int32) =>
nm (M_ty_ u20 x22) fun (u23 : TM) =>
nm (M_ty u23) fun (x24 : Int32) =>
some (x24, u23)
)
else (
some ((-100003 : Int32), u_mo)
)
)
else (
some ((-100001 : Int32), u_mo)
)

abbrev rm_X5_appendCharacter : Room := { frames := 1, cells := 0, slots := 0, locals := 22 }
set_option maxHeartbeats 4000000 in
set_option maxRecDepth 100000 in
theorem c_X5_appendCharacter (l : Launch) (D : va_G) (cT : Nat → ClassId) (g : Nat → Nat) (b : Nat) (fu : Nat) (u_mo : TM) (p0 : Int32) (o : Int32 × TM) (hf : f_X5_appendCharacter fu u_mo p0 = some o) (sz : Nat) : Met l yX5_appendCharacter wsX5_appendCharacter rm_X5_appendCharacter (va_Pc [.ref (g b), .int p0] (PRE D cT sz (List.flatten [wM cT g b u_mo]))) (QI D o.1 (List.flatten [wM cT g b o.2]) (va_A (List.flatten [wM cT g b u_mo]) sz)) 0 0 (va_A (List.flatten [wM cT g b u_mo]) sz) := by
  refine Met.ofW (cc := cX5_appendCharacter) (maxL := 2) (ret := (some .int)) (by decide) rfl ?_
  intro p e s m args below meth c s₁ B0 hml hv
  obtain ⟨hav, hsz, hP, hK, hD, hN, hZ⟩ := hv
  have hx := B0.exec
  have hb := B0.bytes
  have hr := B0.returns
  have hts := atoms_spec (ws := wsX5_appendCharacter) B0.pre
  have hown : s.vm.findClass RX5 = some m.cls := findClass_of_methodNamed B0.named
  have hlocks := B0.notSynchronized
  subst hsz
  have hD := hD.self (sz := s.heap.size)
  have hA : ∀ q : Nat, s.heap.size ≤ q → va_A (List.flatten [wM cT g b u_mo]) s.heap.size q := fun q h => Or.inr h
  generalize va_A (List.flatten [wM cT g b u_mo]) s.heap.size = A at hD hZ hA ⊢
  have hS : va_S A s.heap s.heap [] := va_S.rf
  have hl := lv_entry ([.ref (g b), .int p0]) (n := 2) (Nat.le_of_ble_eq_true rfl)
  rw [hav]
  rw [lg_entry_eq]
  generalize (lg_sl ([.ref (g b), .int p0]) ++ List.replicate (2 - (lg_sl ([.ref (g b), .int p0])).length) Slot.unset).toArray = ls at hl ⊢
  have hl : lv_has ls 2 [(0, .ref (g b)), (1, .int p0)] := hl
  rw [← hav]
  generalize hQ : MQ below _ _ _ _ _ _ = Q
  show W p l e rm_X5_appendCharacter s m args below meth c s.heap [] 0 0 Q (F0 m 0 ls [])
  unfold f_X5_appendCharacter at hf
  refine lv_iload_n hx hb dX5_appendCharacter_0 rfl (lv_at hl 1 rfl) ?_
  refine lv_iconst (v := 0) hx hb dX5_appendCharacter_1 (by decide) ?_
  refine lv_sipush (v := 255) hx hb dX5_appendCharacter_2 (by decide) ?_
  obtain ⟨o13, ho13, hf⟩ := bd_i hf
  refine cl_i [] [0] [wM cT g b u_mo] hP (va_D_adr hD rfl) hA hS (va_runS (As := [.int p0, .int ((0 : Int32)), .int ((255 : Int32))]) (rest := []) ⟨hx, hb, hml, hown, hts⟩ (c_X5_in l D cT g  fu  p0 ((0 : Int32)) ((255 : Int32)) o13 ho13 _) (va_cwS 3 hts gX5_appendCharacter_X5_in rfl rfl rfl (by decide +kernel) ⟨Nat.le_of_ble_eq_true rfl, Nat.le_of_ble_eq_true rfl⟩) ⟨PRE_blind, PRE_ok [] (by decide) hP (va_D_adr hD rfl) hA hS hK hN hZ⟩ rfl rfl hl.1 rfl (lv_room (Nat.le_of_ble_eq_true rfl)) dX5_appendCharacter_5 ⟨Nat.le_of_ble_eq_true rfl, Nat.le_of_ble_eq_true rfl⟩) rfl 1 rfl (by decide) (by decide) (fun H locs hP hS => ?_)
  refine lv_if_ne (tgt := 14) hx hb dX5_appendCharacter_8 (by decide) (fun c14 => ?_) (fun c14 => ?_)
  · replace hf := it_t hf c14
    refine lv_aload_n hx hb dX5_appendCharacter_14 rfl (lv_at hl 0 rfl) ?_
    refine va_get (ci := 5) (v := .int (M_ty u_mo)) (C := RX5) (T := TX5) (N := 12) hx hb hts iw_X5_appendCharacter_X5 hown hK hP 0 rfl rfl 7 (by decide) (hts (.fieldLink RX5 83 "BallastTrackModel" "typed" "I") (List.mem_of_getElem? (i := 2) rfl)) (fun _ h9 => h9) rfl dX5_appendCharacter_15 ?_
    refine lv_topi (fun x15 ex15 => ?_)
    replace hf := nm_i hf ex15
    refine lv_bipush (v := 100) hx hb dX5_appendCharacter_18 (by decide) ?_
    refine lv_icmp_ne (tgt := 26) hx hb dX5_appendCharacter_20 (by decide) (fun c16 => ?_) (fun c16 => ?_)
    · replace hf := it_t hf c16
      refine lv_aload_n hx hb dX5_appendCharacter_26 rfl (lv_at hl 0 rfl) ?_
      refine va_get (ci := 5) (v := .ref (g (b + 5))) (C := RX5) (T := TX5) (N := 12) hx hb hts iw_X5_appendCharacter_X5 hown hK hP 0 rfl rfl 6 (by decide) (hts (.fieldLink RX5 22 "BallastTrackModel" "text" "[B") (List.mem_of_getElem? (i := 4) rfl)) (fun _ h9 => h9) rfl dX5_appendCharacter_27 ?_
      refine lv_aload_n hx hb dX5_appendCharacter_30 rfl (lv_at hl 0 rfl) ?_
      refine va_get (ci := 5) (v := .int (M_ty u_mo)) (C := RX5) (T := TX5) (N := 12) hx hb hts iw_X5_appendCharacter_X5 hown hK hP 0 rfl rfl 7 (by decide) (hts (.fieldLink RX5 83 "BallastTrackModel" "typed" "I") (List.mem_of_getElem? (i := 2) rfl)) (fun _ h9 => h9) rfl dX5_appendCharacter_31 ?_
      refine lv_topi (fun x17 ex17 => ?_)
      replace hf := nm_i hf ex17
      refine lv_iload_n hx hb dX5_appendCharacter_34 rfl (lv_at hl 1 rfl) ?_
      refine lv_i2b (v := p0.toInt8.toInt32) hx hb dX5_appendCharacter_35 rfl ?_
      refine lv_topi (fun x18 ex18 => ?_)
      replace hf := nm_i hf ex18
      obtain ⟨hi19, hf⟩ := ix_i hf
      refine va_bast hx hb hK hP (va_D_adr hD rfl) hS 5 2 rfl rfl hi19 dX5_appendCharacter_36 (fun H locs hP _ hS => ?_)
      obtain ⟨u20, eu20⟩ : ∃ z : TM, z = M_tx_ u_mo (upd (M_tx u_mo) x17.toNatClampNeg (vp_nar .byte x18)) := ⟨_, rfl⟩
      replace hf := nm_i hf eu20
      have hP : va_P D vwCl (List.flatten [wM cT g b u20]) H := by rw [eu20]; exact hP
      refine lv_aload_n hx hb dX5_appendCharacter_37 rfl (lv_at hl 0 rfl) ?_
      refine lv_dup hx hb dX5_appendCharacter_38 rfl ?_
      refine va_get (ci := 5) (v := .int (M_ty u20)) (C := RX5) (T := TX5) (N := 12) hx hb hts iw_X5_appendCharacter_X5 hown hK hP 0 rfl rfl 7 (by decide) (hts (.fieldLink RX5 83 "BallastTrackModel" "typed" "I") (List.mem_of_getElem? (i := 2) rfl)) (fun _ h9 => h9) rfl dX5_appendCharacter_39 ?_
      refine lv_topi (fun x21 ex21 => ?_)
      replace hf := nm_i hf ex21
      refine lv_iconst (v := 1) hx hb dX5_appendCharacter_42 (by decide) ?_
      refine lv_iadd hx hb dX5_appendCharacter_43 ?_
      refine lv_topi (fun x22 ex22 => ?_)
      replace hf := nm_i hf ex22
      refine va_put (ci := 5) (v := .int x22) (ty := .int) (C := RX5) (T := TX5) (N := 12) hx hb hts iw_X5_appendCharacter_X5 tyX5 tyX5_ok nmX5 hown hK hP (va_D_adr hD rfl) hS 0 rfl rfl 7 (by decide) (hts (.fieldLink RX5 83 "BallastTrackModel" "typed" "I") (List.mem_of_getElem? (i := 2) rfl)) (fun _ h9 => h9) rfl (by decide +kernel) rfl rfl (Nat.le_of_ble_eq_true rfl) dX5_appendCharacter_44 (fun H locs hP _ hS => ?_)
      obtain ⟨u23, eu23⟩ : ∃ z : TM, z = M_ty_ u20 x22 := ⟨_, rfl⟩
      replace hf := nm_i hf eu23
      have hP : va_P D vwCl (List.flatten [wM cT g b u23]) H := by rw [eu23]; exact hP
      refine lv_aload_n hx hb dX5_appendCharacter_47 rfl (lv_at hl 0 rfl) ?_
      refine va_get (ci := 5) (v := .int (M_ty u23)) (C := RX5) (T := TX5) (N := 12) hx hb hts iw_X5_appendCharacter_X5 hown hK hP 0 rfl rfl 7 (by decide) (hts (.fieldLink RX5 83 "BallastTrackModel" "typed" "I") (List.mem_of_getElem? (i := 2) rfl)) (fun _ h9 => h9) rfl dX5_appendCharacter_48 ?_
      refine lv_topi (fun x24 ex24 => ?_)
      replace hf := nm_i hf ex24
      obtain rfl := Option.some.inj hf
      subst hQ
      exact en_i hx hb hr hP hS hlocks dX5_appendCharacter_51
    · replace hf := it_f hf (not_not_intro c16)
      refine lv_ldc (v := -100003) hx hb hown (hts (.constant RX5 86 (-100003)) (List.mem_of_getElem? (i := 3) rfl)) dX5_appendCharacter_23 ?_
      obtain rfl := Option.some.inj hf
      subst hQ
      exact en_i hx hb hr hP hS hlocks dX5_appendCharacter_25
  · replace hf := it_f hf (not_not_intro c14)
    refine lv_ldc (v := -100001) hx hb hown (hts (.constant RX5 68 (-100001)) (List.mem_of_getElem? (i := 1) rfl)) dX5_appendCharacter_11 ?_
    obtain rfl := Option.some.inj hf
    subst hQ
    exact en_i hx hb hr hP hS hlocks dX5_appendCharacter_13
theorem iw_X5_clearText_X5 : ∀ w ∈ u_ws RX5 TX5 12, w ∈ wsX5_clearText := by decide +kernel
def f_X5_clearText (fu : Nat) (u_mo : TM)  : Option (Int32 × TM) :=
nm (M_ty u_mo) fun (x3 : Int32) =>
nm (M_ty_ u_mo ((0 : Int32))) fun (u4 : TM) =>
some (x3, u4)

abbrev rm_X5_clearText : Room := { frames := 0, cells := 0, slots := 0, locals := 0 }
set_option maxHeartbeats 4000000 in
set_option maxRecDepth 100000 in
theorem c_X5_clearText (l : Launch) (D : va_G) (cT : Nat → ClassId) (g : Nat → Nat) (b : Nat) (fu : Nat) (u_mo : TM)  (o : Int32 × TM) (hf : f_X5_clearText fu u_mo  = some o) (sz : Nat) : Met l yX5_clearText wsX5_clearText rm_X5_clearText (va_Pc [.ref (g b)] (PRE D cT sz (List.flatten [wM cT g b u_mo]))) (QI D o.1 (List.flatten [wM cT g b o.2]) (va_A (List.flatten [wM cT g b u_mo]) sz)) 0 0 (va_A (List.flatten [wM cT g b u_mo]) sz) := by
  refine Met.ofW (cc := cX5_clearText) (maxL := 2) (ret := (some .int)) (by decide) rfl ?_
  intro p e s m args below meth c s₁ B0 hml hv
  obtain ⟨hav, hsz, hP, hK, hD, hN, hZ⟩ := hv
  have hx := B0.exec
  have hb := B0.bytes
  have hr := B0.returns
  have hts := atoms_spec (ws := wsX5_clearText) B0.pre
  have hown : s.vm.findClass RX5 = some m.cls := findClass_of_methodNamed B0.named
  have hlocks := B0.notSynchronized
  subst hsz
  have hD := hD.self (sz := s.heap.size)
  have hA : ∀ q : Nat, s.heap.size ≤ q → va_A (List.flatten [wM cT g b u_mo]) s.heap.size q := fun q h => Or.inr h
  generalize va_A (List.flatten [wM cT g b u_mo]) s.heap.size = A at hD hZ hA ⊢
  have hS : va_S A s.heap s.heap [] := va_S.rf
  have hl := lv_entry ([.ref (g b)]) (n := 2) (Nat.le_of_ble_eq_true rfl)
  rw [hav]
  rw [lg_entry_eq]
  generalize (lg_sl ([.ref (g b)]) ++ List.replicate (2 - (lg_sl ([.ref (g b)])).length) Slot.unset).toArray = ls at hl ⊢
  have hl : lv_has ls 2 [(0, .ref (g b))] := hl
  rw [← hav]
  generalize hQ : MQ below _ _ _ _ _ _ = Q
  show W p l e rm_X5_clearText s m args below meth c s.heap [] 0 0 Q (F0 m 0 ls [])
  unfold f_X5_clearText at hf
  refine lv_aload_n hx hb dX5_clearText_0 rfl (lv_at hl 0 rfl) ?_
  refine va_get (ci := 5) (v := .int (M_ty u_mo)) (C := RX5) (T := TX5) (N := 12) hx hb hts iw_X5_clearText_X5 hown hK hP 0 rfl rfl 7 (by decide) (hts (.fieldLink RX5 83 "BallastTrackModel" "typed" "I") (List.mem_of_getElem? (i := 1) rfl)) (fun _ h9 => h9) rfl dX5_clearText_1 ?_
  refine lv_topi (fun x3 ex3 => ?_)
  replace hf := nm_i hf ex3
  refine lv_istore_n (lv' := [(1, .int x3), (0, .ref (g b))]) hx hb dX5_clearText_4 rfl hl (by decide) rfl (fun ls hl => ?_)
  refine lv_aload_n hx hb dX5_clearText_5 rfl (lv_at hl 1 rfl) ?_
  refine lv_iconst (v := 0) hx hb dX5_clearText_6 (by decide) ?_
  refine va_put (ci := 5) (v := .int ((0 : Int32))) (ty := .int) (C := RX5) (T := TX5) (N := 12) hx hb hts iw_X5_clearText_X5 tyX5 tyX5_ok nmX5 hown hK hP (va_D_adr hD rfl) hS 0 rfl rfl 7 (by decide) (hts (.fieldLink RX5 83 "BallastTrackModel" "typed" "I") (List.mem_of_getElem? (i := 1) rfl)) (fun _ h9 => h9) rfl (by decide +kernel) rfl rfl (Nat.le_of_ble_eq_true rfl) dX5_clearText_7 (fun H locs hP _ hS => ?_)
  obtain ⟨u4, eu4⟩ : ∃ z : TM, z = M_ty_ u_mo ((0 : Int32)) := ⟨_, rfl⟩
  replace hf := nm_i hf eu4
  have hP : va_P D vwCl (List.flatten [wM cT g b u4]) H := by rw [eu4]; exact hP
  refine lv_iload_n hx hb dX5_clearText_10 rfl (lv_at hl 0 rfl) ?_
  obtain rfl := Option.some.inj hf
  subst hQ
  exact en_i hx hb hr hP hS hlocks dX5_clearText_11
theorem iw_X5_here_X5 : ∀ w ∈ u_ws RX5 TX5 12, w ∈ wsX5_here := by decide +kernel
def lb_X5_here_0 (fu : Nat)  (rec : TM → Option (TM)) (u32 : TM) : Option (TM) :=
nm (M_at u32) fun (x35 : Int32) =>
nm (M_ty u32) fun (x36 : Int32) =>
if x36 ≤ x35 then (
some (u32)
)
else (
nm (M_at u32) fun (x38 : Int32) =>
ix x38 100 <|
nm ((M_tx u32) x38.toNatClampNeg) fun (x40 : Int32) =>
if ¬ x40 = (32 : Int32) then (
some (u32)
)
else (
nm (M_at u32) fun (x42 : Int32) =>
nm (x42 + (1 : Int32)) fun (x43 : Int32) =>
nm (M_at_ u32 x43) fun (u44 : TM) =>
rec u44
)
)

def lf_X5_here_0 (fu : Nat)  : Nat → TM → Option (TM) := lq_1 (lb_X5_here_0 fu )
def f_X5_here (fu : Nat) (u_mo : TM)  : Option (Int32 × TM) :=
bd (lf_X5_here_0 fu  fu u_mo) fun (z34 : TM) =>
nm (M_at z34) fun (x45 : Int32) =>
nm (M_ty z34) fun (x46 : Int32) =>
if x46 ≤ x45 then (
some ((-1 : Int32), z34)
)
else (
nm (M_at z34) fun (x48 : Int32) =>
ix x48 100 <|
nm ((M_tx z34) x48.toNatClampNeg) fun (x50 : Int32) =>
nm (x50 &&& (255 : Int32)) fun (x51 : Int32) =>
some (x51, z34)
)

abbrev rm_X5_here : Room := { frames := 0, cells := 0, slots := 0, locals := 0 }
set_option maxHeartbeats 4000000 in
set_option maxRecDepth 100000 in
theorem c_X5_here (l : Launch) (D : va_G) (cT : Nat → ClassId) (g : Nat → Nat) (b : Nat) (fu : Nat) (u_mo : TM)  (o : Int32 × TM) (hf : f_X5_here fu u_mo  = some o) (sz : Nat) : Met l yX5_here wsX5_here rm_X5_here (va_Pc [.ref (g b)] (PRE D cT sz (List.flatten [wM cT g b u_mo]))) (QI D o.1 (List.flatten [wM cT g b o.2]) (va_A (List.flatten [wM cT g b u_mo]) sz)) 0 0 (va_A (List.flatten [wM cT g b u_mo]) sz) := by
  refine Met.ofW (cc := cX5_here) (maxL := 1) (ret := (some .int)) (by decide) rfl ?_
  intro p e s m args below meth c s₁ B0 hml hv
  obtain ⟨hav, hsz, hP, hK, hD, hN, hZ⟩ := hv
  have hx := B0.exec
  have hb := B0.bytes
  have hr := B0.returns
  have hts := atoms_spec (ws := wsX5_here) B0.pre
  have hown : s.vm.findClass RX5 = some m.cls := findClass_of_methodNamed B0.named
  have hlocks := B0.notSynchronized
  subst hsz
  have hD := hD.self (sz := s.heap.size)
  have hA : ∀ q : Nat, s.heap.size ≤ q → va_A (List.flatten [wM cT g b u_mo]) s.heap.size q := fun q h => Or.inr h
  generalize va_A (List.flatten [wM cT g b u_mo]) s.heap.size = A at hD hZ hA ⊢
  have hS : va_S A s.heap s.heap [] := va_S.rf
  have hl := lv_entry ([.ref (g b)]) (n := 1) (Nat.le_of_ble_eq_true rfl)
  rw [hav]
  rw [lg_entry_eq]
  generalize (lg_sl ([.ref (g b)]) ++ List.replicate (1 - (lg_sl ([.ref (g b)])).length) Slot.unset).toArray = ls at hl ⊢
  have hl : lv_has ls 1 [(0, .ref (g b))] := hl
  rw [← hav]
  generalize hQ : MQ below _ _ _ _ _ _ = Q
  show W p l e rm_X5_here s m args below meth c s.heap [] 0 0 Q (F0 m 0 ls [])
  unfold f_X5_here at hf
  obtain ⟨z34, hz34, hf⟩ := bd_i hf
  have hL0 : ∀ (n : Nat) (u32 : TM) (z33 : TM), lf_X5_here_0 fu  n u32 = some z33 → ∀ (H : Heap) (locs : List Loc) (ls : Array Slot), va_P D vwCl (List.flatten [wM cT g b u32]) H → va_S A s.heap H locs → lv_has ls 1 [(0, .ref (g b))] → (∀ (H : Heap) (locs : List Loc) (ls : Array Slot), va_P D vwCl (List.flatten [wM cT g b z33]) H → va_S A s.heap H locs → lv_has ls 1 [(0, .ref (g b))] → W p l e rm_X5_here s m args below meth c H locs 0 0 Q (F0 m 38 ls [])) → W p l e rm_X5_here s m args below meth c H locs 0 0 Q (F0 m 0 ls []) := by
    refine lq_1_ind (F := lb_X5_here_0 fu ) (fun rec ih u32 z33 hf H locs ls hP hS hl kx => ?_)
    unfold lb_X5_here_0 at hf
    refine lv_aload_n hx hb dX5_here_0 rfl (lv_at hl 0 rfl) ?_
    refine va_get (ci := 5) (v := .int (M_at u32)) (C := RX5) (T := TX5) (N := 12) hx hb hts iw_X5_here_X5 hown hK hP 0 rfl rfl 10 (by decide) (hts (.fieldLink RX5 87 "BallastTrackModel" "at" "I") (List.mem_of_getElem? (i := 1) rfl)) (fun _ h9 => h9) rfl dX5_here_1 ?_
    refine lv_topi (fun x35 ex35 => ?_)
    replace hf := nm_i hf ex35
    refine lv_aload_n hx hb dX5_here_4 rfl (lv_at hl 0 rfl) ?_
    refine va_get (ci := 5) (v := .int (M_ty u32)) (C := RX5) (T := TX5) (N := 12) hx hb hts iw_X5_here_X5 hown hK hP 0 rfl rfl 7 (by decide) (hts (.fieldLink RX5 83 "BallastTrackModel" "typed" "I") (List.mem_of_getElem? (i := 2) rfl)) (fun _ h9 => h9) rfl dX5_here_5 ?_
    refine lv_topi (fun x36 ex36 => ?_)
    replace hf := nm_i hf ex36
    refine lv_icmp_ge (tgt := 38) hx hb dX5_here_8 (by decide) (fun c37 => ?_) (fun c37 => ?_)
    · replace hf := it_t hf c37
      obtain rfl := Option.some.inj hf
      exact kx _ _ _ hP hS (lv_sub hl [0] rfl)
    · replace hf := it_f hf c37
      refine lv_aload_n hx hb dX5_here_11 rfl (lv_at hl 0 rfl) ?_
      refine va_get (ci := 5) (v := .ref (g (b + 5))) (C := RX5) (T := TX5) (N := 12) hx hb hts iw_X5_here_X5 hown hK hP 0 rfl rfl 6 (by decide) (hts (.fieldLink RX5 22 "BallastTrackModel" "text" "[B") (List.mem_of_getElem? (i := 3) rfl)) (fun _ h9 => h9) rfl dX5_here_12 ?_
      refine lv_aload_n hx hb dX5_here_15 rfl (lv_at hl 0 rfl) ?_
      refine va_get (ci := 5) (v := .int (M_at u32)) (C := RX5) (T := TX5) (N := 12) hx hb hts iw_X5_here_X5 hown hK hP 0 rfl rfl 10 (by decide) (hts (.fieldLink RX5 87 "BallastTrackModel" "at" "I") (List.mem_of_getElem? (i := 1) rfl)) (fun _ h9 => h9) rfl dX5_here_16 ?_
      refine lv_topi (fun x38 ex38 => ?_)
      replace hf := nm_i hf ex38
      obtain ⟨hi39, hf⟩ := ix_i hf
      refine va_bald hx hb hK hP 5 2 rfl rfl hi39 dX5_here_19 ?_
      refine lv_topi (fun x40 ex40 => ?_)
      replace hf := nm_i hf ex40
      refine lv_bipush (v := 32) hx hb dX5_here_20 (by decide) ?_
      refine lv_icmp_ne (tgt := 38) hx hb dX5_here_22 (by decide) (fun c41 => ?_) (fun c41 => ?_)
      · replace hf := it_t hf c41
        obtain rfl := Option.some.inj hf
        exact kx _ _ _ hP hS (lv_sub hl [0] rfl)
      · replace hf := it_f hf (not_not_intro c41)
        refine lv_aload_n hx hb dX5_here_25 rfl (lv_at hl 0 rfl) ?_
        refine lv_dup hx hb dX5_here_26 rfl ?_
        refine va_get (ci := 5) (v := .int (M_at u32)) (C := RX5) (T := TX5) (N := 12) hx hb hts iw_X5_here_X5 hown hK hP 0 rfl rfl 10 (by decide) (hts (.fieldLink RX5 87 "BallastTrackModel" "at" "I") (List.mem_of_getElem? (i := 1) rfl)) (fun _ h9 => h9) rfl dX5_here_27 ?_
        refine lv_topi (fun x42 ex42 => ?_)
        replace hf := nm_i hf ex42
        refine lv_iconst (v := 1) hx hb dX5_here_30 (by decide) ?_
        refine lv_iadd hx hb dX5_here_31 ?_
        refine lv_topi (fun x43 ex43 => ?_)
        replace hf := nm_i hf ex43
        refine va_put (ci := 5) (v := .int x43) (ty := .int) (C := RX5) (T := TX5) (N := 12) hx hb hts iw_X5_here_X5 tyX5 tyX5_ok nmX5 hown hK hP (va_D_adr hD rfl) hS 0 rfl rfl 10 (by decide) (hts (.fieldLink RX5 87 "BallastTrackModel" "at" "I") (List.mem_of_getElem? (i := 1) rfl)) (fun _ h9 => h9) rfl (by decide +kernel) rfl rfl (Nat.le_of_ble_eq_true rfl) dX5_here_32 (fun H locs hP _ hS => ?_)
        obtain ⟨u44, eu44⟩ : ∃ z : TM, z = M_at_ u32 x43 := ⟨_, rfl⟩
        replace hf := nm_i hf eu44
        have hP : va_P D vwCl (List.flatten [wM cT g b u44]) H := by rw [eu44]; exact hP
        refine lv_goto (tgt := 0) hx hb dX5_here_35 (by decide) ?_
        exact ih _ _ hf _ _ _ hP hS (lv_sub hl [0] rfl) kx
  refine hL0 fu _ _ hz34 _ _ _ hP hS (lv_sub hl [0] rfl) (fun H locs ls hP hS hl => ?_)
  refine lv_aload_n hx hb dX5_here_38 rfl (lv_at hl 0 rfl) ?_
  refine va_get (ci := 5) (v := .int (M_at z34)) (C := RX5) (T := TX5) (N := 12) hx hb hts iw_X5_here_X5 hown hK hP 0 rfl rfl 10 (by decide) (hts (.fieldLink RX5 87 "BallastTrackModel" "at" "I") (List.mem_of_getElem? (i := 1) rfl)) (fun _ h9 => h9) rfl dX5_here_39 ?_
  refine lv_topi (fun x45 ex45 => ?_)
  replace hf := nm_i hf ex45
  refine lv_aload_n hx hb dX5_here_42 rfl (lv_at hl 0 rfl) ?_
  refine va_get (ci := 5) (v := .int (M_ty z34)) (C := RX5) (T := TX5) (N := 12) hx hb hts iw_X5_here_X5 hown hK hP 0 rfl rfl 7 (by decide) (hts (.fieldLink RX5 83 "BallastTrackModel" "typed" "I") (List.mem_of_getElem? (i := 2) rfl)) (fun _ h9 => h9) rfl dX5_here_43 ?_
  refine lv_topi (fun x46 ex46 => ?_)
  replace hf := nm_i hf ex46
  refine lv_icmp_ge (tgt := 65) hx hb dX5_here_46 (by decide) (fun c47 => ?_) (fun c47 => ?_)
  · replace hf := it_t hf c47
    refine lv_iconst (v := -1) hx hb dX5_here_65 (by decide) ?_
    obtain rfl := Option.some.inj hf
    subst hQ
    exact en_i hx hb hr hP hS hlocks dX5_here_66
  · replace hf := it_f hf c47
    refine lv_aload_n hx hb dX5_here_49 rfl (lv_at hl 0 rfl) ?_
    refine va_get (ci := 5) (v := .ref (g (b + 5))) (C := RX5) (T := TX5) (N := 12) hx hb hts iw_X5_here_X5 hown hK hP 0 rfl rfl 6 (by decide) (hts (.fieldLink RX5 22 "BallastTrackModel" "text" "[B") (List.mem_of_getElem? (i := 3) rfl)) (fun _ h9 => h9) rfl dX5_here_50 ?_
    refine lv_aload_n hx hb dX5_here_53 rfl (lv_at hl 0 rfl) ?_
    refine va_get (ci := 5) (v := .int (M_at z34)) (C := RX5) (T := TX5) (N := 12) hx hb hts iw_X5_here_X5 hown hK hP 0 rfl rfl 10 (by decide) (hts (.fieldLink RX5 87 "BallastTrackModel" "at" "I") (List.mem_of_getElem? (i := 1) rfl)) (fun _ h9 => h9) rfl dX5_here_54 ?_
    refine lv_topi (fun x48 ex48 => ?_)
    replace hf := nm_i hf ex48
    obtain ⟨hi49, hf⟩ := ix_i hf
    refine va_bald hx hb hK hP 5 2 rfl rfl hi49 dX5_here_57 ?_
    refine lv_topi (fun x50 ex50 => ?_)
    replace hf := nm_i hf ex50
    refine lv_sipush (v := 255) hx hb dX5_here_58 (by decide) ?_
    refine lv_iand hx hb dX5_here_61 ?_
    refine lv_topi (fun x51 ex51 => ?_)
    replace hf := nm_i hf ex51
    refine lv_goto (tgt := 66) hx hb dX5_here_62 (by decide) ?_
    obtain rfl := Option.some.inj hf
    subst hQ
    exact en_i hx hb hr hP hS hlocks dX5_here_66
theorem iw_X5_takes_X5 : ∀ w ∈ u_ws RX5 TX5 12, w ∈ wsX5_takes := by decide +kernel
def f_X5_takes (fu : Nat) (u_mo : TM) (p0 : Int32) : Option (Bool × TM) :=
bd (f_X5_here fu u_mo ) fun (o17 : Int32 × TM) =>
jn (fun (x19 : Int32) =>
nm (M_at o17.2) fun (x27 : Int32) =>
if x19 = 0 then (
nm (x27 + (0 : Int32)) fun (x29 : Int32) =>
nm (M_at_ o17.2 x29) fun (u30 : TM) =>
zb x19 fun b31 =>
some (b31, u30)
)
else (
nm (x27 + (1 : Int32)) fun (x32 : Int32) =>
nm (M_at_ o17.2 x32) fun (u33 : TM) =>
zb x19 fun b34 =>
some (b34, u33)
)
) fun K13_26 =>
if ¬ o17.1 = p0 then (
K13_26 ((0 : Int32))
)
else (
K13_26 ((1 : Int32))
)

abbrev rm_X5_takes : Room := { frames := 1, cells := 0, slots := 0, locals := 20 }
set_option maxHeartbeats 4000000 in
set_option maxRecDepth 100000 in
theorem c_X5_takes (l : Launch) (D : va_G) (cT : Nat → ClassId) (g : Nat → Nat) (b : Nat) (fu : Nat) (u_mo : TM) (p0 : Int32) (o : Bool × TM) (hf : f_X5_takes fu u_mo p0 = some o) (sz : Nat) : Met l yX5_takes wsX5_takes rm_X5_takes (va_Pc [.ref (g b), .int p0] (PRE D cT sz (List.flatten [wM cT g b u_mo]))) (QI D (bI o.1) (List.flatten [wM cT g b o.2]) (va_A (List.flatten [wM cT g b u_mo]) sz)) 0 0 (va_A (List.flatten [wM cT g b u_mo]) sz) := by
  refine Met.ofW (cc := cX5_takes) (maxL := 3) (ret := (some .boolean)) (by decide) rfl ?_
  intro p e s m args below meth c s₁ B0 hml hv
  obtain ⟨hav, hsz, hP, hK, hD, hN, hZ⟩ := hv
  have hx := B0.exec
  have hb := B0.bytes
  have hr := B0.returns
  have hts := atoms_spec (ws := wsX5_takes) B0.pre
  have hown : s.vm.findClass RX5 = some m.cls := findClass_of_methodNamed B0.named
  have hlocks := B0.notSynchronized
  subst hsz
  have hD := hD.self (sz := s.heap.size)
  have hA : ∀ q : Nat, s.heap.size ≤ q → va_A (List.flatten [wM cT g b u_mo]) s.heap.size q := fun q h => Or.inr h
  generalize va_A (List.flatten [wM cT g b u_mo]) s.heap.size = A at hD hZ hA ⊢
  have hS : va_S A s.heap s.heap [] := va_S.rf
  have hl := lv_entry ([.ref (g b), .int p0]) (n := 3) (Nat.le_of_ble_eq_true rfl)
  rw [hav]
  rw [lg_entry_eq]
  generalize (lg_sl ([.ref (g b), .int p0]) ++ List.replicate (3 - (lg_sl ([.ref (g b), .int p0])).length) Slot.unset).toArray = ls at hl ⊢
  have hl : lv_has ls 3 [(0, .ref (g b)), (1, .int p0)] := hl
  rw [← hav]
  generalize hQ : MQ below _ _ _ _ _ _ = Q
  show W p l e rm_X5_takes s m args below meth c s.heap [] 0 0 Q (F0 m 0 ls [])
  unfold f_X5_takes at hf
  refine lv_aload_n hx hb dX5_takes_0 rfl (lv_at hl 0 rfl) ?_
  obtain ⟨o17, ho17, hf⟩ := bd_i hf
  refine cl_i [0] [] [wM cT g b o17.2] hP (va_D_adr hD rfl) hA hS (va_runV (As := []) (rest := []) ⟨hx, hb, hml, hown, hts⟩ (c_X5_here l D cT g b fu u_mo  o17 ho17 _) (cwV 0 hts gX5_takes_X5_here rfl rfl rfl (by decide +kernel) ⟨Nat.le_of_ble_eq_true rfl, Nat.le_of_ble_eq_true rfl⟩) ⟨PRE_blind, va_recv hK hP (ci := 5) (q0 := 0) rfl rfl, PRE_ok [0] (by decide) hP (va_D_adr hD rfl) hA hS hK hN hZ⟩ rfl rfl hl.1 rfl (lv_room (Nat.le_of_ble_eq_true rfl)) dX5_takes_1 ⟨Nat.le_of_ble_eq_true rfl, Nat.le_of_ble_eq_true rfl⟩) rfl 1 rfl (by decide) (by decide) (fun H locs hP hS => ?_)
  refine lv_iload_n hx hb dX5_takes_4 rfl (lv_at hl 1 rfl) ?_
  obtain ⟨K13_26, eK13_26, hf⟩ := jn_i hf
  have hK13_26 : ∀ (x19 : Int32) (H : Heap) (locs : List Loc) (ls : Array Slot), K13_26 x19 = some o → va_P D vwCl (List.flatten [wM cT g b o17.2]) H → va_S A s.heap H locs → lv_has ls 3 [(0, .ref (g b))] → W p l e rm_X5_takes s m args below meth c H locs 0 0 Q (F0 m 13 ls [.int x19]) := by
    intro x19 H locs ls hf hP hS hl
    rw [eK13_26] at hf
    refine lv_istore_n (lv' := [(2, .int x19), (0, .ref (g b))]) hx hb dX5_takes_13 rfl hl (by decide) rfl (fun ls hl => ?_)
    refine lv_aload_n hx hb dX5_takes_14 rfl (lv_at hl 1 rfl) ?_
    refine lv_dup hx hb dX5_takes_15 rfl ?_
    refine va_get (ci := 5) (v := .int (M_at o17.2)) (C := RX5) (T := TX5) (N := 12) hx hb hts iw_X5_takes_X5 hown hK hP 0 rfl rfl 10 (by decide) (hts (.fieldLink RX5 87 "BallastTrackModel" "at" "I") (List.mem_of_getElem? (i := 1) rfl)) (fun _ h9 => h9) rfl dX5_takes_16 ?_
    refine lv_topi (fun x27 ex27 => ?_)
    replace hf := nm_i hf ex27
    refine lv_iload_n hx hb dX5_takes_19 rfl (lv_at hl 0 rfl) ?_
    refine lv_if_eq (tgt := 27) hx hb dX5_takes_20 (by decide) (fun c28 => ?_) (fun c28 => ?_)
    · replace hf := it_t hf c28
      refine lv_iconst (v := 0) hx hb dX5_takes_27 (by decide) ?_
      refine lv_iadd hx hb dX5_takes_28 ?_
      refine lv_topi (fun x29 ex29 => ?_)
      replace hf := nm_i hf ex29
      refine va_put (ci := 5) (v := .int x29) (ty := .int) (C := RX5) (T := TX5) (N := 12) hx hb hts iw_X5_takes_X5 tyX5 tyX5_ok nmX5 hown hK hP (va_D_adr hD rfl) hS 0 rfl rfl 10 (by decide) (hts (.fieldLink RX5 87 "BallastTrackModel" "at" "I") (List.mem_of_getElem? (i := 1) rfl)) (fun _ h9 => h9) rfl (by decide +kernel) rfl rfl (Nat.le_of_ble_eq_true rfl) dX5_takes_29 (fun H locs hP _ hS => ?_)
      obtain ⟨u30, eu30⟩ : ∃ z : TM, z = M_at_ o17.2 x29 := ⟨_, rfl⟩
      replace hf := nm_i hf eu30
      have hP : va_P D vwCl (List.flatten [wM cT g b u30]) H := by rw [eu30]; exact hP
      refine lv_iload_n hx hb dX5_takes_32 rfl (lv_at hl 0 rfl) ?_
      obtain ⟨b31, eb31, hf⟩ := zb_i hf
      rw [eb31]
      obtain rfl := Option.some.inj hf
      subst hQ
      exact en_z hx hb hr hP hS hlocks dX5_takes_33
    · replace hf := it_f hf c28
      refine lv_iconst (v := 1) hx hb dX5_takes_23 (by decide) ?_
      refine lv_goto (tgt := 28) hx hb dX5_takes_24 (by decide) ?_
      refine lv_iadd hx hb dX5_takes_28 ?_
      refine lv_topi (fun x32 ex32 => ?_)
      replace hf := nm_i hf ex32
      refine va_put (ci := 5) (v := .int x32) (ty := .int) (C := RX5) (T := TX5) (N := 12) hx hb hts iw_X5_takes_X5 tyX5 tyX5_ok nmX5 hown hK hP (va_D_adr hD rfl) hS 0 rfl rfl 10 (by decide) (hts (.fieldLink RX5 87 "BallastTrackModel" "at" "I") (List.mem_of_getElem? (i := 1) rfl)) (fun _ h9 => h9) rfl (by decide +kernel) rfl rfl (Nat.le_of_ble_eq_true rfl) dX5_takes_29 (fun H locs hP _ hS => ?_)
      obtain ⟨u33, eu33⟩ : ∃ z : TM, z = M_at_ o17.2 x32 := ⟨_, rfl⟩
      replace hf := nm_i hf eu33
      have hP : va_P D vwCl (List.flatten [wM cT g b u33]) H := by rw [eu33]; exact hP
      refine lv_iload_n hx hb dX5_takes_32 rfl (lv_at hl 0 rfl) ?_
      obtain ⟨b34, eb34, hf⟩ := zb_i hf
      rw [eb34]
      obtain rfl := Option.some.inj hf
      subst hQ
      exact en_z hx hb hr hP hS hlocks dX5_takes_33
  clear eK13_26
  refine lv_icmp_ne (tgt := 12) hx hb dX5_takes_5 (by decide) (fun c35 => ?_) (fun c35 => ?_)
  · replace hf := it_t hf c35
    refine lv_iconst (v := 0) hx hb dX5_takes_12 (by decide) ?_
    exact hK13_26 _ _ _ _ hf hP hS (lv_sub hl [0] rfl)
  · replace hf := it_f hf (not_not_intro c35)
    refine lv_iconst (v := 1) hx hb dX5_takes_8 (by decide) ?_
    refine lv_goto (tgt := 13) hx hb dX5_takes_9 (by decide) ?_
    exact hK13_26 _ _ _ _ hf hP hS (lv_sub hl [0] rfl)
theorem iw_X5_reads_X5 : ∀ w ∈ u_ws RX5 TX5 12, w ∈ wsX5_reads := by decide +kernel
def lb_X5_reads_27 (fu : Nat) (p0 : Int32) (x45 : Int32) (rec : TM → Option (TM)) (u70 : TM) : Option (TM) :=
nm (M_at u70) fun (x73 : Int32) =>
nm (M_ty u70) fun (x74 : Int32) =>
if x74 ≤ x73 then (
some (u70)
)
else (
nm (M_at u70) fun (x76 : Int32) =>
nm (x76 - x45) fun (x77 : Int32) =>
if p0 ≤ x77 then (
some (u70)
)
else (
nm (M_at u70) fun (x79 : Int32) =>
ix x79 100 <|
nm ((M_tx u70) x79.toNatClampNeg) fun (x81 : Int32) =>
bd (f_X5_in fu  x81 ((48 : Int32)) ((57 : Int32))) fun (o82 : Bool) =>
if bI o82 = 0 then (
some (u70)
)
else (
nm (M_nu u70) fun (x84 : Int32) =>
nm ((10 : Int32) * x84) fun (x85 : Int32) =>
nm (M_at u70) fun (x86 : Int32) =>
ix x86 100 <|
nm ((M_tx u70) x86.toNatClampNeg) fun (x88 : Int32) =>
nm (x85 + x88) fun (x89 : Int32) =>
nm (x89 - (48 : Int32)) fun (x90 : Int32) =>
nm (M_nu_ u70 x90) fun (u91 : TM) =>
nm (M_at u91) fun (x92 : Int32) =>
nm (x92 + (1 : Int32)) fun (x93 : Int32) =>
nm (M_at_ u91 x93) fun (u94 : TM) =>
rec u94
)
)
)

def lf_X5_reads_27 (fu : Nat) (p0 : Int32) (x45 : Int32) : Nat → TM → Option (TM) := lq_1 (lb_X5_reads_27 fu p0 x45)
def f_X5_reads (fu : Nat) (u_mo : TM) (p0 : Int32) (p1 : Int32) (p2 : Int32) : Option (Bool × TM) :=
bd (f_X5_here fu u_mo ) fun (o42 : Int32 × TM) =>
bd (f_X5_in fu  o42.1 ((48 : Int32)) ((57 : Int32))) fun (o43 : Bool) =>
if ¬ bI o43 = 0 then (
nm (M_at o42.2) fun (x45 : Int32) =>
nm (M_nu_ o42.2 ((0 : Int32))) fun (u46 : TM) =>
bd (lf_X5_reads_27 fu p0 x45 fu u46) fun (z72 : TM) =>
nm (M_nu z72) fun (x95 : Int32) =>
bd (f_X5_in fu  x95 p1 p2) fun (o96 : Bool) =>
if bI o96 = 0 then (
nm (M_at_ z72 x45) fun (u98 : TM) =>
some (false, u98)
)
else (
ix x45 100 <|
nm ((M_tx z72) x45.toNatClampNeg) fun (x100 : Int32) =>
if ¬ x100 = (48 : Int32) then (
some (true, z72)
)
else (
nm (M_at z72) fun (x102 : Int32) =>
nm (x45 + (1 : Int32)) fun (x103 : Int32) =>
if x102 ≤ x103 then (
some (true, z72)
)
else (
nm (M_at_ z72 x45) fun (u105 : TM) =>
some (false, u105)
)
)
)
)
else (
some (false, o42.2)
)

abbrev rm_X5_reads : Room := { frames := 1, cells := 0, slots := 0, locals := 22 }
set_option maxHeartbeats 4000000 in
set_option maxRecDepth 100000 in
theorem c_X5_reads (l : Launch) (D : va_G) (cT : Nat → ClassId) (g : Nat → Nat) (b : Nat) (fu : Nat) (u_mo : TM) (p0 : Int32) (p1 : Int32) (p2 : Int32) (o : Bool × TM) (hf : f_X5_reads fu u_mo p0 p1 p2 = some o) (sz : Nat) : Met l yX5_reads wsX5_reads rm_X5_reads (va_Pc [.ref (g b), .int p0, .int p1, .int p2] (PRE D cT sz (List.flatten [wM cT g b u_mo]))) (QI D (bI o.1) (List.flatten [wM cT g b o.2]) (va_A (List.flatten [wM cT g b u_mo]) sz)) 0 0 (va_A (List.flatten [wM cT g b u_mo]) sz) := by
  refine Met.ofW (cc := cX5_reads) (maxL := 5) (ret := (some .boolean)) (by decide) rfl ?_
  intro p e s m args below meth c s₁ B0 hml hv
  obtain ⟨hav, hsz, hP, hK, hD, hN, hZ⟩ := hv
  have hx := B0.exec
  have hb := B0.bytes
  have hr := B0.returns
  have hts := atoms_spec (ws := wsX5_reads) B0.pre
  have hown : s.vm.findClass RX5 = some m.cls := findClass_of_methodNamed B0.named
  have hlocks := B0.notSynchronized
  subst hsz
  have hD := hD.self (sz := s.heap.size)
  have hA : ∀ q : Nat, s.heap.size ≤ q → va_A (List.flatten [wM cT g b u_mo]) s.heap.size q := fun q h => Or.inr h
  generalize va_A (List.flatten [wM cT g b u_mo]) s.heap.size = A at hD hZ hA ⊢
  have hS : va_S A s.heap s.heap [] := va_S.rf
  have hl := lv_entry ([.ref (g b), .int p0, .int p1, .int p2]) (n := 5) (Nat.le_of_ble_eq_true rfl)
  rw [hav]
  rw [lg_entry_eq]
  generalize (lg_sl ([.ref (g b), .int p0, .int p1, .int p2]) ++ List.replicate (5 - (lg_sl ([.ref (g b), .int p0, .int p1, .int p2])).length) Slot.unset).toArray = ls at hl ⊢
  have hl : lv_has ls 5 [(0, .ref (g b)), (1, .int p0), (2, .int p1), (3, .int p2)] := hl
  rw [← hav]
  generalize hQ : MQ below _ _ _ _ _ _ = Q
  show W p l e rm_X5_reads s m args below meth c s.heap [] 0 0 Q (F0 m 0 ls [])
  unfold f_X5_reads at hf
  refine lv_aload_n hx hb dX5_reads_0 rfl (lv_at hl 0 rfl) ?_
  obtain ⟨o42, ho42, hf⟩ := bd_i hf
  refine cl_i [0] [] [wM cT g b o42.2] hP (va_D_adr hD rfl) hA hS (va_runV (As := []) (rest := []) ⟨hx, hb, hml, hown, hts⟩ (c_X5_here l D cT g b fu u_mo  o42 ho42 _) (cwV 0 hts gX5_reads_X5_here rfl rfl rfl (by decide +kernel) ⟨Nat.le_of_ble_eq_true rfl, Nat.le_of_ble_eq_true rfl⟩) ⟨PRE_blind, va_recv hK hP (ci := 5) (q0 := 0) rfl rfl, PRE_ok [0] (by decide) hP (va_D_adr hD rfl) hA hS hK hN hZ⟩ rfl rfl hl.1 rfl (lv_room (Nat.le_of_ble_eq_true rfl)) dX5_reads_1 ⟨Nat.le_of_ble_eq_true rfl, Nat.le_of_ble_eq_true rfl⟩) rfl 1 rfl (by decide) (by decide) (fun H locs hP hS => ?_)
  refine lv_bipush (v := 48) hx hb dX5_reads_4 (by decide) ?_
  refine lv_bipush (v := 57) hx hb dX5_reads_6 (by decide) ?_
  obtain ⟨o43, ho43, hf⟩ := bd_i hf
  refine cl_i [] [0] [wM cT g b o42.2] hP (va_D_adr hD rfl) hA hS (va_runS (As := [.int o42.1, .int ((48 : Int32)), .int ((57 : Int32))]) (rest := []) ⟨hx, hb, hml, hown, hts⟩ (c_X5_in l D cT g  fu  o42.1 ((48 : Int32)) ((57 : Int32)) o43 ho43 _) (va_cwS 3 hts gX5_reads_X5_in rfl rfl rfl (by decide +kernel) ⟨Nat.le_of_ble_eq_true rfl, Nat.le_of_ble_eq_true rfl⟩) ⟨PRE_blind, PRE_ok [] (by decide) hP (va_D_adr hD rfl) hA hS hK hN hZ⟩ rfl rfl hl.1 rfl (lv_room (Nat.le_of_ble_eq_true rfl)) dX5_reads_8 ⟨Nat.le_of_ble_eq_true rfl, Nat.le_of_ble_eq_true rfl⟩) rfl 1 rfl (by decide) (by decide) (fun H locs hP hS => ?_)
  refine lv_if_ne (tgt := 16) hx hb dX5_reads_11 (by decide) (fun c44 => ?_) (fun c44 => ?_)
  · replace hf := it_t hf c44
    refine lv_aload_n hx hb dX5_reads_16 rfl (lv_at hl 0 rfl) ?_
    refine va_get (ci := 5) (v := .int (M_at o42.2)) (C := RX5) (T := TX5) (N := 12) hx hb hts iw_X5_reads_X5 hown hK hP 0 rfl rfl 10 (by decide) (hts (.fieldLink RX5 87 "BallastTrackModel" "at" "I") (List.mem_of_getElem? (i := 1) rfl)) (fun _ h9 => h9) rfl dX5_reads_17 ?_
    refine lv_topi (fun x45 ex45 => ?_)
    replace hf := nm_i hf ex45
    refine lv_istore (lv' := [(4, .int x45), (0, .ref (g b)), (1, .int p0), (2, .int p1), (3, .int p2)]) hx hb dX5_reads_20 hl (by decide) rfl (fun ls hl => ?_)
    refine lv_aload_n hx hb dX5_reads_22 rfl (lv_at hl 1 rfl) ?_
    refine lv_iconst (v := 0) hx hb dX5_reads_23 (by decide) ?_
    refine va_put (ci := 5) (v := .int ((0 : Int32))) (ty := .int) (C := RX5) (T := TX5) (N := 12) hx hb hts iw_X5_reads_X5 tyX5 tyX5_ok nmX5 hown hK hP (va_D_adr hD rfl) hS 0 rfl rfl 11 (by decide) (hts (.fieldLink RX5 94 "BallastTrackModel" "number" "I") (List.mem_of_getElem? (i := 2) rfl)) (fun _ h9 => h9) rfl (by decide +kernel) rfl rfl (Nat.le_of_ble_eq_true rfl) dX5_reads_24 (fun H locs hP _ hS => ?_)
    obtain ⟨u46, eu46⟩ : ∃ z : TM, z = M_nu_ o42.2 ((0 : Int32)) := ⟨_, rfl⟩
    replace hf := nm_i hf eu46
    have hP : va_P D vwCl (List.flatten [wM cT g b u46]) H := by rw [eu46]; exact hP
    obtain ⟨z72, hz72, hf⟩ := bd_i hf
    have hL27 : ∀ (n : Nat) (u70 : TM) (z71 : TM), lf_X5_reads_27 fu p0 x45 n u70 = some z71 → ∀ (H : Heap) (locs : List Loc) (ls : Array Slot), va_P D vwCl (List.flatten [wM cT g b u70]) H → va_S A s.heap H locs → lv_has ls 5 [(0, .ref (g b)), (1, .int p0), (2, .int p1), (3, .int p2), (4, .int x45)] → (∀ (H : Heap) (locs : List Loc) (ls : Array Slot), va_P D vwCl (List.flatten [wM cT g b z71]) H → va_S A s.heap H locs → lv_has ls 5 [(0, .ref (g b)), (2, .int p1), (3, .int p2), (4, .int x45)] → W p l e rm_X5_reads s m args below meth c H locs 0 0 Q (F0 m 105 ls [])) → W p l e rm_X5_reads s m args below meth c H locs 0 0 Q (F0 m 27 ls []) := by
      refine lq_1_ind (F := lb_X5_reads_27 fu p0 x45) (fun rec ih u70 z71 hf H locs ls hP hS hl kx => ?_)
      unfold lb_X5_reads_27 at hf
      refine lv_aload_n hx hb dX5_reads_27 rfl (lv_at hl 0 rfl) ?_
      refine va_get (ci := 5) (v := .int (M_at u70)) (C := RX5) (T := TX5) (N := 12) hx hb hts iw_X5_reads_X5 hown hK hP 0 rfl rfl 10 (by decide) (hts (.fieldLink RX5 87 "BallastTrackModel" "at" "I") (List.mem_of_getElem? (i := 1) rfl)) (fun _ h9 => h9) rfl dX5_reads_28 ?_
      refine lv_topi (fun x73 ex73 => ?_)
      replace hf := nm_i hf ex73
      refine lv_aload_n hx hb dX5_reads_31 rfl (lv_at hl 0 rfl) ?_
      refine va_get (ci := 5) (v := .int (M_ty u70)) (C := RX5) (T := TX5) (N := 12) hx hb hts iw_X5_reads_X5 hown hK hP 0 rfl rfl 7 (by decide) (hts (.fieldLink RX5 83 "BallastTrackModel" "typed" "I") (List.mem_of_getElem? (i := 3) rfl)) (fun _ h9 => h9) rfl dX5_reads_32 ?_
      refine lv_topi (fun x74 ex74 => ?_)
      replace hf := nm_i hf ex74
      refine lv_icmp_ge (tgt := 105) hx hb dX5_reads_35 (by decide) (fun c75 => ?_) (fun c75 => ?_)
      · replace hf := it_t hf c75
        obtain rfl := Option.some.inj hf
        exact kx _ _ _ hP hS (lv_sub hl [0, 2, 3, 4] rfl)
      · replace hf := it_f hf c75
        refine lv_aload_n hx hb dX5_reads_38 rfl (lv_at hl 0 rfl) ?_
        refine va_get (ci := 5) (v := .int (M_at u70)) (C := RX5) (T := TX5) (N := 12) hx hb hts iw_X5_reads_X5 hown hK hP 0 rfl rfl 10 (by decide) (hts (.fieldLink RX5 87 "BallastTrackModel" "at" "I") (List.mem_of_getElem? (i := 1) rfl)) (fun _ h9 => h9) rfl dX5_reads_39 ?_
        refine lv_topi (fun x76 ex76 => ?_)
        replace hf := nm_i hf ex76
        refine lv_iload hx hb dX5_reads_42 (lv_at hl 4 rfl) ?_
        refine lv_isub hx hb dX5_reads_44 ?_
        refine lv_topi (fun x77 ex77 => ?_)
        replace hf := nm_i hf ex77
        refine lv_iload_n hx hb dX5_reads_45 rfl (lv_at hl 1 rfl) ?_
        refine lv_icmp_ge (tgt := 105) hx hb dX5_reads_46 (by decide) (fun c78 => ?_) (fun c78 => ?_)
        · replace hf := it_t hf c78
          obtain rfl := Option.some.inj hf
          exact kx _ _ _ hP hS (lv_sub hl [0, 2, 3, 4] rfl)
        · replace hf := it_f hf c78
          refine lv_aload_n hx hb dX5_reads_49 rfl (lv_at hl 0 rfl) ?_
          refine va_get (ci := 5) (v := .ref (g (b + 5))) (C := RX5) (T := TX5) (N := 12) hx hb hts iw_X5_reads_X5 hown hK hP 0 rfl rfl 6 (by decide) (hts (.fieldLink RX5 22 "BallastTrackModel" "text" "[B") (List.mem_of_getElem? (i := 4) rfl)) (fun _ h9 => h9) rfl dX5_reads_50 ?_
          refine lv_aload_n hx hb dX5_reads_53 rfl (lv_at hl 0 rfl) ?_
          refine va_get (ci := 5) (v := .int (M_at u70)) (C := RX5) (T := TX5) (N := 12) hx hb hts iw_X5_reads_X5 hown hK hP 0 rfl rfl 10 (by decide) (hts (.fieldLink RX5 87 "BallastTrackModel" "at" "I") (List.mem_of_getElem? (i := 1) rfl)) (fun _ h9 => h9) rfl dX5_reads_54 ?_
          refine lv_topi (fun x79 ex79 => ?_)
          replace hf := nm_i hf ex79
          obtain ⟨hi80, hf⟩ := ix_i hf
          refine va_bald hx hb hK hP 5 2 rfl rfl hi80 dX5_reads_57 ?_
          refine lv_topi (fun x81 ex81 => ?_)
          replace hf := nm_i hf ex81
          refine lv_bipush (v := 48) hx hb dX5_reads_58 (by decide) ?_
          refine lv_bipush (v := 57) hx hb dX5_reads_60 (by decide) ?_
          obtain ⟨o82, ho82, hf⟩ := bd_i hf
          refine cl_i [] [0] [wM cT g b u70] hP (va_D_adr hD rfl) hA hS (va_runS (As := [.int x81, .int ((48 : Int32)), .int ((57 : Int32))]) (rest := []) ⟨hx, hb, hml, hown, hts⟩ (c_X5_in l D cT g  fu  x81 ((48 : Int32)) ((57 : Int32)) o82 ho82 _) (va_cwS 3 hts gX5_reads_X5_in rfl rfl rfl (by decide +kernel) ⟨Nat.le_of_ble_eq_true rfl, Nat.le_of_ble_eq_true rfl⟩) ⟨PRE_blind, PRE_ok [] (by decide) hP (va_D_adr hD rfl) hA hS hK hN hZ⟩ rfl rfl hl.1 rfl (lv_room (Nat.le_of_ble_eq_true rfl)) dX5_reads_62 ⟨Nat.le_of_ble_eq_true rfl, Nat.le_of_ble_eq_true rfl⟩) rfl 1 rfl (by decide) (by decide) (fun H locs hP hS => ?_)
          refine lv_if_eq (tgt := 105) hx hb dX5_reads_65 (by decide) (fun c83 => ?_) (fun c83 => ?_)
          · replace hf := it_t hf c83
            obtain rfl := Option.some.inj hf
            exact kx _ _ _ hP hS (lv_sub hl [0, 2, 3, 4] rfl)
          · replace hf := it_f hf c83
            refine lv_aload_n hx hb dX5_reads_68 rfl (lv_at hl 0 rfl) ?_
            refine lv_bipush (v := 10) hx hb dX5_reads_69 (by decide) ?_
            refine lv_aload_n hx hb dX5_reads_71 rfl (lv_at hl 0 rfl) ?_
            refine va_get (ci := 5) (v := .int (M_nu u70)) (C := RX5) (T := TX5) (N := 12) hx hb hts iw_X5_reads_X5 hown hK hP 0 rfl rfl 11 (by decide) (hts (.fieldLink RX5 94 "BallastTrackModel" "number" "I") (List.mem_of_getElem? (i := 2) rfl)) (fun _ h9 => h9) rfl dX5_reads_72 ?_
            refine lv_topi (fun x84 ex84 => ?_)
            replace hf := nm_i hf ex84
            refine lv_imul hx hb dX5_reads_75 ?_
            refine lv_topi (fun x85 ex85 => ?_)
            replace hf := nm_i hf ex85
            refine lv_aload_n hx hb dX5_reads_76 rfl (lv_at hl 0 rfl) ?_
            refine va_get (ci := 5) (v := .ref (g (b + 5))) (C := RX5) (T := TX5) (N := 12) hx hb hts iw_X5_reads_X5 hown hK hP 0 rfl rfl 6 (by decide) (hts (.fieldLink RX5 22 "BallastTrackModel" "text" "[B") (List.mem_of_getElem? (i := 4) rfl)) (fun _ h9 => h9) rfl dX5_reads_77 ?_
            refine lv_aload_n hx hb dX5_reads_80 rfl (lv_at hl 0 rfl) ?_
            refine va_get (ci := 5) (v := .int (M_at u70)) (C := RX5) (T := TX5) (N := 12) hx hb hts iw_X5_reads_X5 hown hK hP 0 rfl rfl 10 (by decide) (hts (.fieldLink RX5 87 "BallastTrackModel" "at" "I") (List.mem_of_getElem? (i := 1) rfl)) (fun _ h9 => h9) rfl dX5_reads_81 ?_
            refine lv_topi (fun x86 ex86 => ?_)
            replace hf := nm_i hf ex86
            obtain ⟨hi87, hf⟩ := ix_i hf
            refine va_bald hx hb hK hP 5 2 rfl rfl hi87 dX5_reads_84 ?_
            refine lv_topi (fun x88 ex88 => ?_)
            replace hf := nm_i hf ex88
            refine lv_iadd hx hb dX5_reads_85 ?_
            refine lv_topi (fun x89 ex89 => ?_)
            replace hf := nm_i hf ex89
            refine lv_bipush (v := 48) hx hb dX5_reads_86 (by decide) ?_
            refine lv_isub hx hb dX5_reads_88 ?_
            refine lv_topi (fun x90 ex90 => ?_)
            replace hf := nm_i hf ex90
            refine va_put (ci := 5) (v := .int x90) (ty := .int) (C := RX5) (T := TX5) (N := 12) hx hb hts iw_X5_reads_X5 tyX5 tyX5_ok nmX5 hown hK hP (va_D_adr hD rfl) hS 0 rfl rfl 11 (by decide) (hts (.fieldLink RX5 94 "BallastTrackModel" "number" "I") (List.mem_of_getElem? (i := 2) rfl)) (fun _ h9 => h9) rfl (by decide +kernel) rfl rfl (Nat.le_of_ble_eq_true rfl) dX5_reads_89 (fun H locs hP _ hS => ?_)
            obtain ⟨u91, eu91⟩ : ∃ z : TM, z = M_nu_ u70 x90 := ⟨_, rfl⟩
            replace hf := nm_i hf eu91
            have hP : va_P D vwCl (List.flatten [wM cT g b u91]) H := by rw [eu91]; exact hP
            refine lv_aload_n hx hb dX5_reads_92 rfl (lv_at hl 0 rfl) ?_
            refine lv_dup hx hb dX5_reads_93 rfl ?_
            refine va_get (ci := 5) (v := .int (M_at u91)) (C := RX5) (T := TX5) (N := 12) hx hb hts iw_X5_reads_X5 hown hK hP 0 rfl rfl 10 (by decide) (hts (.fieldLink RX5 87 "BallastTrackModel" "at" "I") (List.mem_of_getElem? (i := 1) rfl)) (fun _ h9 => h9) rfl dX5_reads_94 ?_
            refine lv_topi (fun x92 ex92 => ?_)
            replace hf := nm_i hf ex92
            refine lv_iconst (v := 1) hx hb dX5_reads_97 (by decide) ?_
            refine lv_iadd hx hb dX5_reads_98 ?_
            refine lv_topi (fun x93 ex93 => ?_)
            replace hf := nm_i hf ex93
            refine va_put (ci := 5) (v := .int x93) (ty := .int) (C := RX5) (T := TX5) (N := 12) hx hb hts iw_X5_reads_X5 tyX5 tyX5_ok nmX5 hown hK hP (va_D_adr hD rfl) hS 0 rfl rfl 10 (by decide) (hts (.fieldLink RX5 87 "BallastTrackModel" "at" "I") (List.mem_of_getElem? (i := 1) rfl)) (fun _ h9 => h9) rfl (by decide +kernel) rfl rfl (Nat.le_of_ble_eq_true rfl) dX5_reads_99 (fun H locs hP _ hS => ?_)
            obtain ⟨u94, eu94⟩ : ∃ z : TM, z = M_at_ u91 x93 := ⟨_, rfl⟩
            replace hf := nm_i hf eu94
            have hP : va_P D vwCl (List.flatten [wM cT g b u94]) H := by rw [eu94]; exact hP
            refine lv_goto (tgt := 27) hx hb dX5_reads_102 (by decide) ?_
            exact ih _ _ hf _ _ _ hP hS (lv_sub hl [0, 1, 2, 3, 4] rfl) kx
    refine hL27 fu _ _ hz72 _ _ _ hP hS (lv_sub hl [1, 2, 3, 4, 0] rfl) (fun H locs ls hP hS hl => ?_)
    refine lv_aload_n hx hb dX5_reads_105 rfl (lv_at hl 0 rfl) ?_
    refine va_get (ci := 5) (v := .int (M_nu z72)) (C := RX5) (T := TX5) (N := 12) hx hb hts iw_X5_reads_X5 hown hK hP 0 rfl rfl 11 (by decide) (hts (.fieldLink RX5 94 "BallastTrackModel" "number" "I") (List.mem_of_getElem? (i := 2) rfl)) (fun _ h9 => h9) rfl dX5_reads_106 ?_
    refine lv_topi (fun x95 ex95 => ?_)
    replace hf := nm_i hf ex95
    refine lv_iload_n hx hb dX5_reads_109 rfl (lv_at hl 1 rfl) ?_
    refine lv_iload_n hx hb dX5_reads_110 rfl (lv_at hl 2 rfl) ?_
    obtain ⟨o96, ho96, hf⟩ := bd_i hf
    refine cl_i [] [0] [wM cT g b z72] hP (va_D_adr hD rfl) hA hS (va_runS (As := [.int x95, .int p1, .int p2]) (rest := []) ⟨hx, hb, hml, hown, hts⟩ (c_X5_in l D cT g  fu  x95 p1 p2 o96 ho96 _) (va_cwS 3 hts gX5_reads_X5_in rfl rfl rfl (by decide +kernel) ⟨Nat.le_of_ble_eq_true rfl, Nat.le_of_ble_eq_true rfl⟩) ⟨PRE_blind, PRE_ok [] (by decide) hP (va_D_adr hD rfl) hA hS hK hN hZ⟩ rfl rfl hl.1 rfl (lv_room (Nat.le_of_ble_eq_true rfl)) dX5_reads_111 ⟨Nat.le_of_ble_eq_true rfl, Nat.le_of_ble_eq_true rfl⟩) rfl 1 rfl (by decide) (by decide) (fun H locs hP hS => ?_)
    refine lv_if_eq (tgt := 140) hx hb dX5_reads_114 (by decide) (fun c97 => ?_) (fun c97 => ?_)
    · replace hf := it_t hf c97
      refine lv_aload_n hx hb dX5_reads_140 rfl (lv_at hl 0 rfl) ?_
      refine lv_iload hx hb dX5_reads_141 (lv_at hl 3 rfl) ?_
      refine va_put (ci := 5) (v := .int x45) (ty := .int) (C := RX5) (T := TX5) (N := 12) hx hb hts iw_X5_reads_X5 tyX5 tyX5_ok nmX5 hown hK hP (va_D_adr hD rfl) hS 0 rfl rfl 10 (by decide) (hts (.fieldLink RX5 87 "BallastTrackModel" "at" "I") (List.mem_of_getElem? (i := 1) rfl)) (fun _ h9 => h9) rfl (by decide +kernel) rfl rfl (Nat.le_of_ble_eq_true rfl) dX5_reads_143 (fun H locs hP _ hS => ?_)
      obtain ⟨u98, eu98⟩ : ∃ z : TM, z = M_at_ z72 x45 := ⟨_, rfl⟩
      replace hf := nm_i hf eu98
      have hP : va_P D vwCl (List.flatten [wM cT g b u98]) H := by rw [eu98]; exact hP
      refine lv_iconst (v := 0) hx hb dX5_reads_146 (by decide) ?_
      obtain rfl := Option.some.inj hf
      subst hQ
      exact en_z (v := false) hx hb hr hP hS hlocks dX5_reads_147
    · replace hf := it_f hf c97
      refine lv_aload_n hx hb dX5_reads_117 rfl (lv_at hl 0 rfl) ?_
      refine va_get (ci := 5) (v := .ref (g (b + 5))) (C := RX5) (T := TX5) (N := 12) hx hb hts iw_X5_reads_X5 hown hK hP 0 rfl rfl 6 (by decide) (hts (.fieldLink RX5 22 "BallastTrackModel" "text" "[B") (List.mem_of_getElem? (i := 4) rfl)) (fun _ h9 => h9) rfl dX5_reads_118 ?_
      refine lv_iload hx hb dX5_reads_121 (lv_at hl 3 rfl) ?_
      obtain ⟨hi99, hf⟩ := ix_i hf
      refine va_bald hx hb hK hP 5 2 rfl rfl hi99 dX5_reads_123 ?_
      refine lv_topi (fun x100 ex100 => ?_)
      replace hf := nm_i hf ex100
      refine lv_bipush (v := 48) hx hb dX5_reads_124 (by decide) ?_
      refine lv_icmp_ne (tgt := 148) hx hb dX5_reads_126 (by decide) (fun c101 => ?_) (fun c101 => ?_)
      · replace hf := it_t hf c101
        refine lv_iconst (v := 1) hx hb dX5_reads_148 (by decide) ?_
        obtain rfl := Option.some.inj hf
        subst hQ
        exact en_z (v := true) hx hb hr hP hS hlocks dX5_reads_149
      · replace hf := it_f hf (not_not_intro c101)
        refine lv_aload_n hx hb dX5_reads_129 rfl (lv_at hl 0 rfl) ?_
        refine va_get (ci := 5) (v := .int (M_at z72)) (C := RX5) (T := TX5) (N := 12) hx hb hts iw_X5_reads_X5 hown hK hP 0 rfl rfl 10 (by decide) (hts (.fieldLink RX5 87 "BallastTrackModel" "at" "I") (List.mem_of_getElem? (i := 1) rfl)) (fun _ h9 => h9) rfl dX5_reads_130 ?_
        refine lv_topi (fun x102 ex102 => ?_)
        replace hf := nm_i hf ex102
        refine lv_iload hx hb dX5_reads_133 (lv_at hl 3 rfl) ?_
        refine lv_iconst (v := 1) hx hb dX5_reads_135 (by decide) ?_
        refine lv_iadd hx hb dX5_reads_136 ?_
        refine lv_topi (fun x103 ex103 => ?_)
        replace hf := nm_i hf ex103
        refine lv_icmp_le (tgt := 148) hx hb dX5_reads_137 (by decide) (fun c104 => ?_) (fun c104 => ?_)
        · replace hf := it_t hf c104
          refine lv_iconst (v := 1) hx hb dX5_reads_148 (by decide) ?_
          obtain rfl := Option.some.inj hf
          subst hQ
          exact en_z (v := true) hx hb hr hP hS hlocks dX5_reads_149
        · replace hf := it_f hf c104
          refine lv_aload_n hx hb dX5_reads_140 rfl (lv_at hl 0 rfl) ?_
          refine lv_iload hx hb dX5_reads_141 (lv_at hl 3 rfl) ?_
          refine va_put (ci := 5) (v := .int x45) (ty := .int) (C := RX5) (T := TX5) (N := 12) hx hb hts iw_X5_reads_X5 tyX5 tyX5_ok nmX5 hown hK hP (va_D_adr hD rfl) hS 0 rfl rfl 10 (by decide) (hts (.fieldLink RX5 87 "BallastTrackModel" "at" "I") (List.mem_of_getElem? (i := 1) rfl)) (fun _ h9 => h9) rfl (by decide +kernel) rfl rfl (Nat.le_of_ble_eq_true rfl) dX5_reads_143 (fun H locs hP _ hS => ?_)
          obtain ⟨u105, eu105⟩ : ∃ z : TM, z = M_at_ z72 x45 := ⟨_, rfl⟩
          replace hf := nm_i hf eu105
          have hP : va_P D vwCl (List.flatten [wM cT g b u105]) H := by rw [eu105]; exact hP
          refine lv_iconst (v := 0) hx hb dX5_reads_146 (by decide) ?_
          obtain rfl := Option.some.inj hf
          subst hQ
          exact en_z (v := false) hx hb hr hP hS hlocks dX5_reads_147
  · replace hf := it_f hf (not_not_intro c44)
    refine lv_iconst (v := 0) hx hb dX5_reads_14 (by decide) ?_
    obtain rfl := Option.some.inj hf
    subst hQ
    exact en_z (v := false) hx hb hr hP hS hlocks dX5_reads_15
theorem iw_X5_readsItem_X5 : ∀ w ∈ u_ws RX5 TX5 12, w ∈ wsX5_readsItem := by decide +kernel
def lb_X5_readsItem_192 (fu : Nat) (x3733 : Int32) (x7001 : Int32) (x7406 : Int32) (rec : Int32 → TM → Option (TM)) (v7447 : Int32) (u7448 : TM) : Option (TM) :=
if x7001 < v7447 then (
some (u7448)
)
else (
jn (fun (u7457 : TM) =>
nm (v7447 + (1 : Int32)) fun (x7460 : Int32) =>
rec x7460 u7457
) fun K225_7459 =>
if x3733 = 0 then (
nm ((101 : Int32) + v7447) fun (x7462 : Int32) =>
ix x7462 281 <|
nm (M_ss_ u7448 (upd (M_ss u7448) x7462.toNatClampNeg x7406)) fun (u7464 : TM) =>
K225_7459 u7464
)
else (
bd (f_X5_puts fu u7448 v7447 x7406) fun (o7465 : TM) =>
K225_7459 o7465
)
)

def lf_X5_readsItem_192 (fu : Nat) (x3733 : Int32) (x7001 : Int32) (x7406 : Int32) : Nat → Int32 → TM → Option (TM) := lq_2 (lb_X5_readsItem_192 fu x3733 x7001 x7406)
def f_X5_readsItem (fu : Nat) (u_mo : TM)  : Option (Bool × TM) :=
bd (f_X5_here fu u_mo ) fun (o3731 : Int32 × TM) =>
jn (fun (x3733 : Int32) =>
jn (fun (u5601 : TM) =>
nm (M_at u5601) fun (x6531 : Int32) =>
nm (x6531 + (1 : Int32)) fun (x6532 : Int32) =>
nm (M_at_ u5601 x6532) fun (u6533 : TM) =>
nm (M_ss u6533 0) fun (x6534 : Int32) =>
nm (x6534 - (1 : Int32)) fun (x6535 : Int32) =>
bd (f_X5_reads fu u6533 ((2 : Int32)) ((0 : Int32)) x6535) fun (o6536 : Bool × TM) =>
if ¬ bI o6536.1 = 0 then (
nm (M_nu o6536.2) fun (x6538 : Int32) =>
bd (f_X5_takes fu o6536.2 ((45 : Int32))) fun (o6539 : Bool × TM) =>
jn (fun (u6545 : TM) =>
nm (M_nu u6545) fun (x7001 : Int32) =>
bd (f_X5_takes fu u6545 ((61 : Int32))) fun (o7002 : Bool × TM) =>
if ¬ bI o7002.1 = 0 then (
jn (fun (x7008 : Int32) (u7009 : TM) =>
jn (fun (x7233 : Int32) =>
jn (fun (x7345 : Int32) =>
bd (f_X5_reads fu u7009 x7233 ((0 : Int32)) x7345) fun (o7400 : Bool × TM) =>
if ¬ bI o7400.1 = 0 then (
jn (fun (x7406 : Int32) =>
bd (f_X5_takes fu o7400.2 ((59 : Int32))) fun (o7429 : Bool × TM) =>
if ¬ bI o7429.1 = 0 then (
bd (lf_X5_readsItem_192 fu x3733 x7001 x7406 fu x6538 o7429.2) fun (z7450 : TM) =>
some (true, z7450)
)
else (
some (false, o7429.2)
)
) fun K176_7428 =>
if x7008 = 0 then (
nm (M_nu o7400.2) fun (x7467 : Int32) =>
K176_7428 x7467
)
else (
nm (M_nu o7400.2) fun (x7468 : Int32) =>
nm (-x7468) fun (x7469 : Int32) =>
K176_7428 x7469
)
)
else (
some (false, o7400.2)
)
) fun K151_7399 =>
if x3733 = 0 then (
K151_7399 ((100 : Int32))
)
else (
K151_7399 ((9999 : Int32))
)
) fun K138_7343 =>
if x3733 = 0 then (
K138_7343 ((3 : Int32))
)
else (
K138_7343 ((4 : Int32))
)
) fun K126_7231 =>
jn (fun (u7007 : TM) =>
K126_7231 ((0 : Int32)) u7007
) fun K125_7472 =>
if x3733 = 0 then (
K125_7472 o7002.2
)
else (
bd (f_X5_takes fu o7002.2 ((45 : Int32))) fun (o7474 : Bool × TM) =>
if bI o7474.1 = 0 then (
K125_7472 o7474.2
)
else (
K126_7231 ((1 : Int32)) o7474.2
)
)
)
else (
some (false, o7002.2)
)
) fun K92_7000 =>
if bI o6539.1 = 0 then (
K92_7000 o6539.2
)
else (
nm (M_ss o6539.2 0) fun (x7477 : Int32) =>
nm (x7477 - (1 : Int32)) fun (x7478 : Int32) =>
bd (f_X5_reads fu o6539.2 ((2 : Int32)) x6538 x7478) fun (o7479 : Bool × TM) =>
if ¬ bI o7479.1 = 0 then (
K92_7000 o7479.2
)
else (
some (false, o7479.2)
)
)
)
else (
some (false, o6536.2)
)
) fun K30_6530 =>
if ¬ x3733 = 0 then (
K30_6530 o3731.2
)
else (
bd (f_X5_here fu o3731.2 ) fun (o7482 : Int32 × TM) =>
if o7482.1 = (102 : Int32) then (
K30_6530 o7482.2
)
else (
some (false, o7482.2)
)
)
) fun K14_5597 =>
if ¬ o3731.1 = (98 : Int32) then (
K14_5597 ((0 : Int32))
)
else (
K14_5597 ((1 : Int32))
)

abbrev rm_X5_readsItem : Room := { frames := 2, cells := 0, slots := 0, locals := 46 }
set_option maxHeartbeats 4000000 in
set_option maxRecDepth 100000 in
theorem c_X5_readsItem (l : Launch) (D : va_G) (cT : Nat → ClassId) (g : Nat → Nat) (b : Nat) (fu : Nat) (u_mo : TM)  (o : Bool × TM) (hf : f_X5_readsItem fu u_mo  = some o) (sz : Nat) : Met l yX5_readsItem wsX5_readsItem rm_X5_readsItem (va_Pc [.ref (g b)] (PRE D cT sz (List.flatten [wM cT g b u_mo]))) (QI D (bI o.1) (List.flatten [wM cT g b o.2]) (va_A (List.flatten [wM cT g b u_mo]) sz)) 0 0 (va_A (List.flatten [wM cT g b u_mo]) sz) := by
  refine Met.ofW (cc := cX5_readsItem) (maxL := 7) (ret := (some .boolean)) (by decide) rfl ?_
  intro p e s m args below meth c s₁ B0 hml hv
  obtain ⟨hav, hsz, hP, hK, hD, hN, hZ⟩ := hv
  have hx := B0.exec
  have hb := B0.bytes
  have hr := B0.returns
  have hts := atoms_spec (ws := wsX5_readsItem) B0.pre
  have hown : s.vm.findClass RX5 = some m.cls := findClass_of_methodNamed B0.named
  have hlocks := B0.notSynchronized
  subst hsz
  have hD := hD.self (sz := s.heap.size)
  have hA : ∀ q : Nat, s.heap.size ≤ q → va_A (List.flatten [wM cT g b u_mo]) s.heap.size q := fun q h => Or.inr h
  generalize va_A (List.flatten [wM cT g b u_mo]) s.heap.size = A at hD hZ hA ⊢
  have hS : va_S A s.heap s.heap [] := va_S.rf
  have hl := lv_entry ([.ref (g b)]) (n := 7) (Nat.le_of_ble_eq_true rfl)
  rw [hav]
  rw [lg_entry_eq]
  generalize (lg_sl ([.ref (g b)]) ++ List.replicate (7 - (lg_sl ([.ref (g b)])).length) Slot.unset).toArray = ls at hl ⊢
  have hl : lv_has ls 7 [(0, .ref (g b))] := hl
  rw [← hav]
  generalize hQ : MQ below _ _ _ _ _ _ = Q
  show W p l e rm_X5_readsItem s m args below meth c s.heap [] 0 0 Q (F0 m 0 ls [])
  unfold f_X5_readsItem at hf
  refine lv_aload_n hx hb dX5_readsItem_0 rfl (lv_at hl 0 rfl) ?_
  obtain ⟨o3731, ho3731, hf⟩ := bd_i hf
  refine cl_i [0] [] [wM cT g b o3731.2] hP (va_D_adr hD rfl) hA hS (va_runV (As := []) (rest := []) ⟨hx, hb, hml, hown, hts⟩ (c_X5_here l D cT g b fu u_mo  o3731 ho3731 _) (cwV 0 hts gX5_readsItem_X5_here rfl rfl rfl (by decide +kernel) ⟨Nat.le_of_ble_eq_true rfl, Nat.le_of_ble_eq_true rfl⟩) ⟨PRE_blind, va_recv hK hP (ci := 5) (q0 := 0) rfl rfl, PRE_ok [0] (by decide) hP (va_D_adr hD rfl) hA hS hK hN hZ⟩ rfl rfl hl.1 rfl (lv_room (Nat.le_of_ble_eq_true rfl)) dX5_readsItem_1 ⟨Nat.le_of_ble_eq_true rfl, Nat.le_of_ble_eq_true rfl⟩) rfl 1 rfl (by decide) (by decide) (fun H locs hP hS => ?_)
  refine lv_bipush (v := 98) hx hb dX5_readsItem_4 (by decide) ?_
  obtain ⟨K14_5597, eK14_5597, hf⟩ := jn_i hf
  have hK14_5597 : ∀ (x3733 : Int32) (H : Heap) (locs : List Loc) (ls : Array Slot), K14_5597 x3733 = some o → va_P D vwCl (List.flatten [wM cT g b o3731.2]) H → va_S A s.heap H locs → lv_has ls 7 [(0, .ref (g b))] → W p l e rm_X5_readsItem s m args below meth c H locs 0 0 Q (F0 m 14 ls [.int x3733]) := by
    intro x3733 H locs ls hf hP hS hl
    rw [eK14_5597] at hf
    refine lv_istore_n (lv' := [(1, .int x3733), (0, .ref (g b))]) hx hb dX5_readsItem_14 rfl hl (by decide) rfl (fun ls hl => ?_)
    refine lv_iload_n hx hb dX5_readsItem_15 rfl (lv_at hl 0 rfl) ?_
    obtain ⟨K30_6530, eK30_6530, hf⟩ := jn_i hf
    have hK30_6530 : ∀ (u5601 : TM) (H : Heap) (locs : List Loc) (ls : Array Slot), K30_6530 u5601 = some o → va_P D vwCl (List.flatten [wM cT g b u5601]) H → va_S A s.heap H locs → lv_has ls 7 [(0, .ref (g b)), (1, .int x3733)] → W p l e rm_X5_readsItem s m args below meth c H locs 0 0 Q (F0 m 30 ls []) := by
      intro u5601 H locs ls hf hP hS hl
      rw [eK30_6530] at hf
      refine lv_aload_n hx hb dX5_readsItem_30 rfl (lv_at hl 0 rfl) ?_
      refine lv_dup hx hb dX5_readsItem_31 rfl ?_
      refine va_get (ci := 5) (v := .int (M_at u5601)) (C := RX5) (T := TX5) (N := 12) hx hb hts iw_X5_readsItem_X5 hown hK hP 0 rfl rfl 10 (by decide) (hts (.fieldLink RX5 87 "BallastTrackModel" "at" "I") (List.mem_of_getElem? (i := 1) rfl)) (fun _ h9 => h9) rfl dX5_readsItem_32 ?_
      refine lv_topi (fun x6531 ex6531 => ?_)
      replace hf := nm_i hf ex6531
      refine lv_iconst (v := 1) hx hb dX5_readsItem_35 (by decide) ?_
      refine lv_iadd hx hb dX5_readsItem_36 ?_
      refine lv_topi (fun x6532 ex6532 => ?_)
      replace hf := nm_i hf ex6532
      refine va_put (ci := 5) (v := .int x6532) (ty := .int) (C := RX5) (T := TX5) (N := 12) hx hb hts iw_X5_readsItem_X5 tyX5 tyX5_ok nmX5 hown hK hP (va_D_adr hD rfl) hS 0 rfl rfl 10 (by decide) (hts (.fieldLink RX5 87 "BallastTrackModel" "at" "I") (List.mem_of_getElem? (i := 1) rfl)) (fun _ h9 => h9) rfl (by decide +kernel) rfl rfl (Nat.le_of_ble_eq_true rfl) dX5_readsItem_37 (fun H locs hP _ hS => ?_)
      obtain ⟨u6533, eu6533⟩ : ∃ z : TM, z = M_at_ u5601 x6532 := ⟨_, rfl⟩
      replace hf := nm_i hf eu6533
      have hP : va_P D vwCl (List.flatten [wM cT g b u6533]) H := by rw [eu6533]; exact hP
      refine lv_aload_n hx hb dX5_readsItem_40 rfl (lv_at hl 0 rfl) ?_
      refine lv_iconst (v := 2) hx hb dX5_readsItem_41 (by decide) ?_
      refine lv_iconst (v := 0) hx hb dX5_readsItem_42 (by decide) ?_
      refine lv_aload_n hx hb dX5_readsItem_43 rfl (lv_at hl 0 rfl) ?_
      refine va_get (ci := 5) (v := .ref (g (b + 1))) (C := RX5) (T := TX5) (N := 12) hx hb hts iw_X5_readsItem_X5 hown hK hP 0 rfl rfl 0 (by decide) (hts (.fieldLink RX5 7 "BallastTrackModel" "s" "[I") (List.mem_of_getElem? (i := 2) rfl)) (fun _ h9 => h9) rfl dX5_readsItem_44 ?_
      refine lv_iconst (v := 0) hx hb dX5_readsItem_47 (by decide) ?_
      refine va_iald hx hb hK hP 1 0 rfl rfl (by unfold vp_in; decide) dX5_readsItem_48 ?_
      refine lv_topi (fun x6534 ex6534 => ?_)
      replace hf := nm_i hf ex6534
      refine lv_iconst (v := 1) hx hb dX5_readsItem_49 (by decide) ?_
      refine lv_isub hx hb dX5_readsItem_50 ?_
      refine lv_topi (fun x6535 ex6535 => ?_)
      replace hf := nm_i hf ex6535
      obtain ⟨o6536, ho6536, hf⟩ := bd_i hf
      refine cl_i [0] [] [wM cT g b o6536.2] hP (va_D_adr hD rfl) hA hS (va_runV (As := [.int ((2 : Int32)), .int ((0 : Int32)), .int x6535]) (rest := []) ⟨hx, hb, hml, hown, hts⟩ (c_X5_reads l D cT g b fu u6533 ((2 : Int32)) ((0 : Int32)) x6535 o6536 ho6536 _) (cwV 3 hts gX5_readsItem_X5_reads rfl rfl rfl (by decide +kernel) ⟨Nat.le_of_ble_eq_true rfl, Nat.le_of_ble_eq_true rfl⟩) ⟨PRE_blind, va_recv hK hP (ci := 5) (q0 := 0) rfl rfl, PRE_ok [0] (by decide) hP (va_D_adr hD rfl) hA hS hK hN hZ⟩ rfl rfl hl.1 rfl (lv_room (Nat.le_of_ble_eq_true rfl)) dX5_readsItem_51 ⟨Nat.le_of_ble_eq_true rfl, Nat.le_of_ble_eq_true rfl⟩) rfl 1 rfl (by decide) (by decide) (fun H locs hP hS => ?_)
      refine lv_if_ne (tgt := 59) hx hb dX5_readsItem_54 (by decide) (fun c6537 => ?_) (fun c6537 => ?_)
      · replace hf := it_t hf c6537
        refine lv_aload_n hx hb dX5_readsItem_59 rfl (lv_at hl 0 rfl) ?_
        refine va_get (ci := 5) (v := .int (M_nu o6536.2)) (C := RX5) (T := TX5) (N := 12) hx hb hts iw_X5_readsItem_X5 hown hK hP 0 rfl rfl 11 (by decide) (hts (.fieldLink RX5 94 "BallastTrackModel" "number" "I") (List.mem_of_getElem? (i := 3) rfl)) (fun _ h9 => h9) rfl dX5_readsItem_60 ?_
        refine lv_topi (fun x6538 ex6538 => ?_)
        replace hf := nm_i hf ex6538
        refine lv_istore_n (lv' := [(2, .int x6538), (0, .ref (g b)), (1, .int x3733)]) hx hb dX5_readsItem_63 rfl hl (by decide) rfl (fun ls hl => ?_)
        refine lv_aload_n hx hb dX5_readsItem_64 rfl (lv_at hl 1 rfl) ?_
        refine lv_bipush (v := 45) hx hb dX5_readsItem_65 (by decide) ?_
        obtain ⟨o6539, ho6539, hf⟩ := bd_i hf
        refine cl_i [0] [] [wM cT g b o6539.2] hP (va_D_adr hD rfl) hA hS (va_runV (As := [.int ((45 : Int32))]) (rest := []) ⟨hx, hb, hml, hown, hts⟩ (c_X5_takes l D cT g b fu o6536.2 ((45 : Int32)) o6539 ho6539 _) (cwV 1 hts gX5_readsItem_X5_takes rfl rfl rfl (by decide +kernel) ⟨Nat.le_of_ble_eq_true rfl, Nat.le_of_ble_eq_true rfl⟩) ⟨PRE_blind, va_recv hK hP (ci := 5) (q0 := 0) rfl rfl, PRE_ok [0] (by decide) hP (va_D_adr hD rfl) hA hS hK hN hZ⟩ rfl rfl hl.1 rfl (lv_room (Nat.le_of_ble_eq_true rfl)) dX5_readsItem_67 ⟨Nat.le_of_ble_eq_true rfl, Nat.le_of_ble_eq_true rfl⟩) rfl 1 rfl (by decide) (by decide) (fun H locs hP hS => ?_)
        obtain ⟨K92_7000, eK92_7000, hf⟩ := jn_i hf
        have hK92_7000 : ∀ (u6545 : TM) (H : Heap) (locs : List Loc) (ls : Array Slot), K92_7000 u6545 = some o → va_P D vwCl (List.flatten [wM cT g b u6545]) H → va_S A s.heap H locs → lv_has ls 7 [(0, .ref (g b)), (1, .int x3733), (2, .int x6538)] → W p l e rm_X5_readsItem s m args below meth c H locs 0 0 Q (F0 m 92 ls []) := by
          intro u6545 H locs ls hf hP hS hl
          rw [eK92_7000] at hf
          refine lv_aload_n hx hb dX5_readsItem_92 rfl (lv_at hl 0 rfl) ?_
          refine va_get (ci := 5) (v := .int (M_nu u6545)) (C := RX5) (T := TX5) (N := 12) hx hb hts iw_X5_readsItem_X5 hown hK hP 0 rfl rfl 11 (by decide) (hts (.fieldLink RX5 94 "BallastTrackModel" "number" "I") (List.mem_of_getElem? (i := 3) rfl)) (fun _ h9 => h9) rfl dX5_readsItem_93 ?_
          refine lv_topi (fun x7001 ex7001 => ?_)
          replace hf := nm_i hf ex7001
          refine lv_istore_n (lv' := [(3, .int x7001), (0, .ref (g b)), (1, .int x3733), (2, .int x6538)]) hx hb dX5_readsItem_96 rfl hl (by decide) rfl (fun ls hl => ?_)
          refine lv_aload_n hx hb dX5_readsItem_97 rfl (lv_at hl 1 rfl) ?_
          refine lv_bipush (v := 61) hx hb dX5_readsItem_98 (by decide) ?_
          obtain ⟨o7002, ho7002, hf⟩ := bd_i hf
          refine cl_i [0] [] [wM cT g b o7002.2] hP (va_D_adr hD rfl) hA hS (va_runV (As := [.int ((61 : Int32))]) (rest := []) ⟨hx, hb, hml, hown, hts⟩ (c_X5_takes l D cT g b fu u6545 ((61 : Int32)) o7002 ho7002 _) (cwV 1 hts gX5_readsItem_X5_takes rfl rfl rfl (by decide +kernel) ⟨Nat.le_of_ble_eq_true rfl, Nat.le_of_ble_eq_true rfl⟩) ⟨PRE_blind, va_recv hK hP (ci := 5) (q0 := 0) rfl rfl, PRE_ok [0] (by decide) hP (va_D_adr hD rfl) hA hS hK hN hZ⟩ rfl rfl hl.1 rfl (lv_room (Nat.le_of_ble_eq_true rfl)) dX5_readsItem_100 ⟨Nat.le_of_ble_eq_true rfl, Nat.le_of_ble_eq_true rfl⟩) rfl 1 rfl (by decide) (by decide) (fun H locs hP hS => ?_)
          refine lv_if_ne (tgt := 108) hx hb dX5_readsItem_103 (by decide) (fun c7003 => ?_) (fun c7003 => ?_)
          · replace hf := it_t hf c7003
            refine lv_iload_n hx hb dX5_readsItem_108 rfl (lv_at hl 2 rfl) ?_
            obtain ⟨K126_7231, eK126_7231, hf⟩ := jn_i hf
            have hK126_7231 : ∀ (x7008 : Int32) (u7009 : TM) (H : Heap) (locs : List Loc) (ls : Array Slot), K126_7231 x7008 u7009 = some o → va_P D vwCl (List.flatten [wM cT g b u7009]) H → va_S A s.heap H locs → lv_has ls 7 [(0, .ref (g b)), (1, .int x3733), (2, .int x6538), (3, .int x7001)] → W p l e rm_X5_readsItem s m args below meth c H locs 0 0 Q (F0 m 126 ls [.int x7008]) := by
              intro x7008 u7009 H locs ls hf hP hS hl
              rw [eK126_7231] at hf
              refine lv_istore (lv' := [(4, .int x7008), (0, .ref (g b)), (1, .int x3733), (2, .int x6538), (3, .int x7001)]) hx hb dX5_readsItem_126 hl (by decide) rfl (fun ls hl => ?_)
              refine lv_aload_n hx hb dX5_readsItem_128 rfl (lv_at hl 1 rfl) ?_
              refine lv_iload_n hx hb dX5_readsItem_129 rfl (lv_at hl 2 rfl) ?_
              obtain ⟨K138_7343, eK138_7343, hf⟩ := jn_i hf
              have hK138_7343 : ∀ (x7233 : Int32) (H : Heap) (locs : List Loc) (ls : Array Slot), K138_7343 x7233 = some o → va_P D vwCl (List.flatten [wM cT g b u7009]) H → va_S A s.heap H locs → lv_has ls 7 [(0, .ref (g b)), (1, .int x3733), (2, .int x6538), (3, .int x7001), (4, .int x7008)] → W p l e rm_X5_readsItem s m args below meth c H locs 0 0 Q (F0 m 138 ls [.int x7233, .ref (g b)]) := by
                intro x7233 H locs ls hf hP hS hl
                rw [eK138_7343] at hf
                refine lv_iconst (v := 0) hx hb dX5_readsItem_138 (by decide) ?_
                refine lv_iload_n hx hb dX5_readsItem_139 rfl (lv_at hl 1 rfl) ?_
                obtain ⟨K151_7399, eK151_7399, hf⟩ := jn_i hf
                have hK151_7399 : ∀ (x7345 : Int32) (H : Heap) (locs : List Loc) (ls : Array Slot), K151_7399 x7345 = some o → va_P D vwCl (List.flatten [wM cT g b u7009]) H → va_S A s.heap H locs → lv_has ls 7 [(0, .ref (g b)), (1, .int x3733), (2, .int x6538), (3, .int x7001), (4, .int x7008)] → W p l e rm_X5_readsItem s m args below meth c H locs 0 0 Q (F0 m 151 ls [.int x7345, .int ((0 : Int32)), .int x7233, .ref (g b)]) := by
                  intro x7345 H locs ls hf hP hS hl
                  rw [eK151_7399] at hf
                  obtain ⟨o7400, ho7400, hf⟩ := bd_i hf
                  refine cl_i [0] [] [wM cT g b o7400.2] hP (va_D_adr hD rfl) hA hS (va_runV (As := [.int x7233, .int ((0 : Int32)), .int x7345]) (rest := []) ⟨hx, hb, hml, hown, hts⟩ (c_X5_reads l D cT g b fu u7009 x7233 ((0 : Int32)) x7345 o7400 ho7400 _) (cwV 3 hts gX5_readsItem_X5_reads rfl rfl rfl (by decide +kernel) ⟨Nat.le_of_ble_eq_true rfl, Nat.le_of_ble_eq_true rfl⟩) ⟨PRE_blind, va_recv hK hP (ci := 5) (q0 := 0) rfl rfl, PRE_ok [0] (by decide) hP (va_D_adr hD rfl) hA hS hK hN hZ⟩ rfl rfl hl.1 rfl (lv_room (Nat.le_of_ble_eq_true rfl)) dX5_readsItem_151 ⟨Nat.le_of_ble_eq_true rfl, Nat.le_of_ble_eq_true rfl⟩) rfl 1 rfl (by decide) (by decide) (fun H locs hP hS => ?_)
                  refine lv_if_ne (tgt := 159) hx hb dX5_readsItem_154 (by decide) (fun c7401 => ?_) (fun c7401 => ?_)
                  · replace hf := it_t hf c7401
                    refine lv_iload hx hb dX5_readsItem_159 (lv_at hl 4 rfl) ?_
                    obtain ⟨K176_7428, eK176_7428, hf⟩ := jn_i hf
                    have hK176_7428 : ∀ (x7406 : Int32) (H : Heap) (locs : List Loc) (ls : Array Slot), K176_7428 x7406 = some o → va_P D vwCl (List.flatten [wM cT g b o7400.2]) H → va_S A s.heap H locs → lv_has ls 7 [(0, .ref (g b)), (1, .int x3733), (2, .int x6538), (3, .int x7001)] → W p l e rm_X5_readsItem s m args below meth c H locs 0 0 Q (F0 m 176 ls [.int x7406]) := by
                      intro x7406 H locs ls hf hP hS hl
                      rw [eK176_7428] at hf
                      refine lv_istore (lv' := [(5, .int x7406), (0, .ref (g b)), (1, .int x3733), (2, .int x6538), (3, .int x7001)]) hx hb dX5_readsItem_176 hl (by decide) rfl (fun ls hl => ?_)
                      refine lv_aload_n hx hb dX5_readsItem_178 rfl (lv_at hl 1 rfl) ?_
                      refine lv_bipush (v := 59) hx hb dX5_readsItem_179 (by decide) ?_
                      obtain ⟨o7429, ho7429, hf⟩ := bd_i hf
                      refine cl_i [0] [] [wM cT g b o7429.2] hP (va_D_adr hD rfl) hA hS (va_runV (As := [.int ((59 : Int32))]) (rest := []) ⟨hx, hb, hml, hown, hts⟩ (c_X5_takes l D cT g b fu o7400.2 ((59 : Int32)) o7429 ho7429 _) (cwV 1 hts gX5_readsItem_X5_takes rfl rfl rfl (by decide +kernel) ⟨Nat.le_of_ble_eq_true rfl, Nat.le_of_ble_eq_true rfl⟩) ⟨PRE_blind, va_recv hK hP (ci := 5) (q0 := 0) rfl rfl, PRE_ok [0] (by decide) hP (va_D_adr hD rfl) hA hS hK hN hZ⟩ rfl rfl hl.1 rfl (lv_room (Nat.le_of_ble_eq_true rfl)) dX5_readsItem_181 ⟨Nat.le_of_ble_eq_true rfl, Nat.le_of_ble_eq_true rfl⟩) rfl 1 rfl (by decide) (by decide) (fun H locs hP hS => ?_)
                      refine lv_if_ne (tgt := 189) hx hb dX5_readsItem_184 (by decide) (fun c7430 => ?_) (fun c7430 => ?_)
                      · replace hf := it_t hf c7430
                        refine lv_iload_n hx hb dX5_readsItem_189 rfl (lv_at hl 3 rfl) ?_
                        refine lv_istore (lv' := [(6, .int x6538), (5, .int x7406), (0, .ref (g b)), (1, .int x3733), (2, .int x6538), (3, .int x7001)]) hx hb dX5_readsItem_190 hl (by decide) rfl (fun ls hl => ?_)
                        obtain ⟨z7450, hz7450, hf⟩ := bd_i hf
                        have hL192 : ∀ (n : Nat) (v7447 : Int32) (u7448 : TM) (z7449 : TM), lf_X5_readsItem_192 fu x3733 x7001 x7406 n v7447 u7448 = some z7449 → ∀ (H : Heap) (locs : List Loc) (ls : Array Slot), va_P D vwCl (List.flatten [wM cT g b u7448]) H → va_S A s.heap H locs → lv_has ls 7 [(0, .ref (g b)), (1, .int x3733), (3, .int x7001), (5, .int x7406), (6, .int v7447)] → (∀ (H : Heap) (locs : List Loc) (ls : Array Slot), va_P D vwCl (List.flatten [wM cT g b z7449]) H → va_S A s.heap H locs → lv_has ls 7 [] → W p l e rm_X5_readsItem s m args below meth c H locs 0 0 Q (F0 m 231 ls [])) → W p l e rm_X5_readsItem s m args below meth c H locs 0 0 Q (F0 m 192 ls []) := by
                          refine lq_2_ind (F := lb_X5_readsItem_192 fu x3733 x7001 x7406) (fun rec ih v7447 u7448 z7449 hf H locs ls hP hS hl kx => ?_)
                          unfold lb_X5_readsItem_192 at hf
                          refine lv_iload hx hb dX5_readsItem_192 (lv_at hl 4 rfl) ?_
                          refine lv_iload_n hx hb dX5_readsItem_194 rfl (lv_at hl 2 rfl) ?_
                          refine lv_icmp_gt (tgt := 231) hx hb dX5_readsItem_195 (by decide) (fun c7451 => ?_) (fun c7451 => ?_)
                          · replace hf := it_t hf c7451
                            obtain rfl := Option.some.inj hf
                            exact kx _ _ _ hP hS (lv_sub hl [] rfl)
                          · replace hf := it_f hf c7451
                            refine lv_iload_n hx hb dX5_readsItem_198 rfl (lv_at hl 1 rfl) ?_
                            obtain ⟨K225_7459, eK225_7459, hf⟩ := jn_i hf
                            have hK225_7459 : ∀ (u7457 : TM) (H : Heap) (locs : List Loc) (ls : Array Slot), K225_7459 u7457 = some z7449 → va_P D vwCl (List.flatten [wM cT g b u7457]) H → va_S A s.heap H locs → lv_has ls 7 [(0, .ref (g b)), (1, .int x3733), (3, .int x7001), (5, .int x7406), (6, .int v7447)] → W p l e rm_X5_readsItem s m args below meth c H locs 0 0 Q (F0 m 225 ls []) := by
                              intro u7457 H locs ls hf hP hS hl
                              rw [eK225_7459] at hf
                              obtain ⟨x7460, ex7460⟩ : ∃ z : Int32, z = v7447 + (1 : Int32) := ⟨_, rfl⟩
                              replace hf := nm_i hf ex7460
                              refine lv_iinc (v := x7460) (lv' := [(6, .int x7460), (0, .ref (g b)), (1, .int x3733), (3, .int x7001), (5, .int x7406)]) hx hb dX5_readsItem_225 hl (k := 4) rfl (by rw [ex7460]; rfl) (by decide) rfl (fun ls hl => ?_)
                              refine lv_goto (tgt := 192) hx hb dX5_readsItem_228 (by decide) ?_
                              exact ih _ _ _ hf _ _ _ hP hS (lv_sub hl [1, 2, 3, 4, 0] rfl) kx
                            clear eK225_7459
                            refine lv_if_eq (tgt := 213) hx hb dX5_readsItem_199 (by decide) (fun c7461 => ?_) (fun c7461 => ?_)
                            · replace hf := it_t hf c7461
                              refine lv_aload_n hx hb dX5_readsItem_213 rfl (lv_at hl 0 rfl) ?_
                              refine va_get (ci := 5) (v := .ref (g (b + 1))) (C := RX5) (T := TX5) (N := 12) hx hb hts iw_X5_readsItem_X5 hown hK hP 0 rfl rfl 0 (by decide) (hts (.fieldLink RX5 7 "BallastTrackModel" "s" "[I") (List.mem_of_getElem? (i := 2) rfl)) (fun _ h9 => h9) rfl dX5_readsItem_214 ?_
                              refine lv_bipush (v := 101) hx hb dX5_readsItem_217 (by decide) ?_
                              refine lv_iload hx hb dX5_readsItem_219 (lv_at hl 4 rfl) ?_
                              refine lv_iadd hx hb dX5_readsItem_221 ?_
                              refine lv_topi (fun x7462 ex7462 => ?_)
                              replace hf := nm_i hf ex7462
                              refine lv_iload hx hb dX5_readsItem_222 (lv_at hl 3 rfl) ?_
                              obtain ⟨hi7463, hf⟩ := ix_i hf
                              refine va_iast hx hb hK hP (va_D_adr hD rfl) hS 1 0 rfl rfl hi7463 dX5_readsItem_224 (fun H locs hP _ hS => ?_)
                              obtain ⟨u7464, eu7464⟩ : ∃ z : TM, z = M_ss_ u7448 (upd (M_ss u7448) x7462.toNatClampNeg x7406) := ⟨_, rfl⟩
                              replace hf := nm_i hf eu7464
                              have hP : va_P D vwCl (List.flatten [wM cT g b u7464]) H := by rw [eu7464]; exact hP
                              exact hK225_7459 _ _ _ _ hf hP hS (lv_sub hl [0, 1, 2, 3, 4] rfl)
                            · replace hf := it_f hf c7461
                              refine lv_aload_n hx hb dX5_readsItem_202 rfl (lv_at hl 0 rfl) ?_
                              refine lv_iload hx hb dX5_readsItem_203 (lv_at hl 4 rfl) ?_
                              refine lv_iload hx hb dX5_readsItem_205 (lv_at hl 3 rfl) ?_
                              obtain ⟨o7465, ho7465, hf⟩ := bd_i hf
                              refine cl_v [0] [] [wM cT g b o7465] hP (va_D_adr hD rfl) hA hS (va_runV (As := [.int v7447, .int x7406]) (rest := []) ⟨hx, hb, hml, hown, hts⟩ (c_X5_puts l D cT g b fu u7448 v7447 x7406 o7465 ho7465 _) (cwV 2 hts gX5_readsItem_X5_puts rfl rfl rfl (by decide +kernel) ⟨Nat.le_of_ble_eq_true rfl, Nat.le_of_ble_eq_true rfl⟩) ⟨PRE_blind, va_recv hK hP (ci := 5) (q0 := 0) rfl rfl, PRE_ok [0] (by decide) hP (va_D_adr hD rfl) hA hS hK hN hZ⟩ rfl rfl hl.1 rfl (lv_room (Nat.le_of_ble_eq_true rfl)) dX5_readsItem_207 ⟨Nat.le_of_ble_eq_true rfl, Nat.le_of_ble_eq_true rfl⟩) rfl 1 rfl (by decide) (by decide) (fun H locs hP hS => ?_)
                              refine lv_goto (tgt := 225) hx hb dX5_readsItem_210 (by decide) ?_
                              exact hK225_7459 _ _ _ _ hf hP hS (lv_sub hl [0, 1, 2, 3, 4] rfl)
                        refine hL192 fu _ _ _ hz7450 _ _ _ hP hS (lv_sub hl [2, 3, 5, 1, 0] rfl) (fun H locs ls hP hS hl => ?_)
                        refine lv_iconst (v := 1) hx hb dX5_readsItem_231 (by decide) ?_
                        obtain rfl := Option.some.inj hf
                        subst hQ
                        exact en_z (v := true) hx hb hr hP hS hlocks dX5_readsItem_232
                      · replace hf := it_f hf (not_not_intro c7430)
                        refine lv_iconst (v := 0) hx hb dX5_readsItem_187 (by decide) ?_
                        obtain rfl := Option.some.inj hf
                        subst hQ
                        exact en_z (v := false) hx hb hr hP hS hlocks dX5_readsItem_188
                    clear eK176_7428
                    refine lv_if_eq (tgt := 172) hx hb dX5_readsItem_161 (by decide) (fun c7466 => ?_) (fun c7466 => ?_)
                    · replace hf := it_t hf c7466
                      refine lv_aload_n hx hb dX5_readsItem_172 rfl (lv_at hl 0 rfl) ?_
                      refine va_get (ci := 5) (v := .int (M_nu o7400.2)) (C := RX5) (T := TX5) (N := 12) hx hb hts iw_X5_readsItem_X5 hown hK hP 0 rfl rfl 11 (by decide) (hts (.fieldLink RX5 94 "BallastTrackModel" "number" "I") (List.mem_of_getElem? (i := 3) rfl)) (fun _ h9 => h9) rfl dX5_readsItem_173 ?_
                      refine lv_topi (fun x7467 ex7467 => ?_)
                      replace hf := nm_i hf ex7467
                      exact hK176_7428 _ _ _ _ hf hP hS (lv_sub hl [0, 1, 2, 3] rfl)
                    · replace hf := it_f hf c7466
                      refine lv_aload_n hx hb dX5_readsItem_164 rfl (lv_at hl 0 rfl) ?_
                      refine va_get (ci := 5) (v := .int (M_nu o7400.2)) (C := RX5) (T := TX5) (N := 12) hx hb hts iw_X5_readsItem_X5 hown hK hP 0 rfl rfl 11 (by decide) (hts (.fieldLink RX5 94 "BallastTrackModel" "number" "I") (List.mem_of_getElem? (i := 3) rfl)) (fun _ h9 => h9) rfl dX5_readsItem_165 ?_
                      refine lv_topi (fun x7468 ex7468 => ?_)
                      replace hf := nm_i hf ex7468
                      refine lv_ineg hx hb dX5_readsItem_168 ?_
                      refine lv_topi (fun x7469 ex7469 => ?_)
                      replace hf := nm_i hf ex7469
                      refine lv_goto (tgt := 176) hx hb dX5_readsItem_169 (by decide) ?_
                      exact hK176_7428 _ _ _ _ hf hP hS (lv_sub hl [0, 1, 2, 3] rfl)
                  · replace hf := it_f hf (not_not_intro c7401)
                    refine lv_iconst (v := 0) hx hb dX5_readsItem_157 (by decide) ?_
                    obtain rfl := Option.some.inj hf
                    subst hQ
                    exact en_z (v := false) hx hb hr hP hS hlocks dX5_readsItem_158
                clear eK151_7399
                refine lv_if_eq (tgt := 149) hx hb dX5_readsItem_140 (by decide) (fun c7470 => ?_) (fun c7470 => ?_)
                · replace hf := it_t hf c7470
                  refine lv_bipush (v := 100) hx hb dX5_readsItem_149 (by decide) ?_
                  exact hK151_7399 _ _ _ _ hf hP hS (lv_sub hl [0, 1, 2, 3, 4] rfl)
                · replace hf := it_f hf c7470
                  refine lv_sipush (v := 9999) hx hb dX5_readsItem_143 (by decide) ?_
                  refine lv_goto (tgt := 151) hx hb dX5_readsItem_146 (by decide) ?_
                  exact hK151_7399 _ _ _ _ hf hP hS (lv_sub hl [0, 1, 2, 3, 4] rfl)
              clear eK138_7343
              refine lv_if_eq (tgt := 137) hx hb dX5_readsItem_130 (by decide) (fun c7471 => ?_) (fun c7471 => ?_)
              · replace hf := it_t hf c7471
                refine lv_iconst (v := 3) hx hb dX5_readsItem_137 (by decide) ?_
                exact hK138_7343 _ _ _ _ hf hP hS (lv_sub hl [1, 2, 3, 4, 0] rfl)
              · replace hf := it_f hf c7471
                refine lv_iconst (v := 4) hx hb dX5_readsItem_133 (by decide) ?_
                refine lv_goto (tgt := 138) hx hb dX5_readsItem_134 (by decide) ?_
                exact hK138_7343 _ _ _ _ hf hP hS (lv_sub hl [1, 2, 3, 4, 0] rfl)
            clear eK126_7231
            obtain ⟨K125_7472, eK125_7472, hf⟩ := jn_i hf
            have hK125_7472 : ∀ (u7007 : TM) (H : Heap) (locs : List Loc) (ls : Array Slot), K125_7472 u7007 = some o → va_P D vwCl (List.flatten [wM cT g b u7007]) H → va_S A s.heap H locs → lv_has ls 7 [(0, .ref (g b)), (1, .int x3733), (2, .int x6538), (3, .int x7001)] → W p l e rm_X5_readsItem s m args below meth c H locs 0 0 Q (F0 m 125 ls []) := by
              intro u7007 H locs ls hf hP hS hl
              rw [eK125_7472] at hf
              refine lv_iconst (v := 0) hx hb dX5_readsItem_125 (by decide) ?_
              exact hK126_7231 _ _ _ _ _ hf hP hS (lv_sub hl [0, 1, 2, 3] rfl)
            clear eK125_7472
            refine lv_if_eq (tgt := 125) hx hb dX5_readsItem_109 (by decide) (fun c7473 => ?_) (fun c7473 => ?_)
            · replace hf := it_t hf c7473
              exact hK125_7472 _ _ _ _ hf hP hS (lv_sub hl [1, 2, 3, 0] rfl)
            · replace hf := it_f hf c7473
              refine lv_aload_n hx hb dX5_readsItem_112 rfl (lv_at hl 1 rfl) ?_
              refine lv_bipush (v := 45) hx hb dX5_readsItem_113 (by decide) ?_
              obtain ⟨o7474, ho7474, hf⟩ := bd_i hf
              refine cl_i [0] [] [wM cT g b o7474.2] hP (va_D_adr hD rfl) hA hS (va_runV (As := [.int ((45 : Int32))]) (rest := []) ⟨hx, hb, hml, hown, hts⟩ (c_X5_takes l D cT g b fu o7002.2 ((45 : Int32)) o7474 ho7474 _) (cwV 1 hts gX5_readsItem_X5_takes rfl rfl rfl (by decide +kernel) ⟨Nat.le_of_ble_eq_true rfl, Nat.le_of_ble_eq_true rfl⟩) ⟨PRE_blind, va_recv hK hP (ci := 5) (q0 := 0) rfl rfl, PRE_ok [0] (by decide) hP (va_D_adr hD rfl) hA hS hK hN hZ⟩ rfl rfl hl.1 rfl (lv_room (Nat.le_of_ble_eq_true rfl)) dX5_readsItem_115 ⟨Nat.le_of_ble_eq_true rfl, Nat.le_of_ble_eq_true rfl⟩) rfl 1 rfl (by decide) (by decide) (fun H locs hP hS => ?_)
              refine lv_if_eq (tgt := 125) hx hb dX5_readsItem_118 (by decide) (fun c7475 => ?_) (fun c7475 => ?_)
              · replace hf := it_t hf c7475
                exact hK125_7472 _ _ _ _ hf hP hS (lv_sub hl [1, 2, 3, 0] rfl)
              · replace hf := it_f hf c7475
                refine lv_iconst (v := 1) hx hb dX5_readsItem_121 (by decide) ?_
                refine lv_goto (tgt := 126) hx hb dX5_readsItem_122 (by decide) ?_
                exact hK126_7231 _ _ _ _ _ hf hP hS (lv_sub hl [1, 2, 3, 0] rfl)
          · replace hf := it_f hf (not_not_intro c7003)
            refine lv_iconst (v := 0) hx hb dX5_readsItem_106 (by decide) ?_
            obtain rfl := Option.some.inj hf
            subst hQ
            exact en_z (v := false) hx hb hr hP hS hlocks dX5_readsItem_107
        clear eK92_7000
        refine lv_if_eq (tgt := 92) hx hb dX5_readsItem_70 (by decide) (fun c7476 => ?_) (fun c7476 => ?_)
        · replace hf := it_t hf c7476
          exact hK92_7000 _ _ _ _ hf hP hS (lv_sub hl [1, 2, 0] rfl)
        · replace hf := it_f hf c7476
          refine lv_aload_n hx hb dX5_readsItem_73 rfl (lv_at hl 1 rfl) ?_
          refine lv_iconst (v := 2) hx hb dX5_readsItem_74 (by decide) ?_
          refine lv_iload_n hx hb dX5_readsItem_75 rfl (lv_at hl 0 rfl) ?_
          refine lv_aload_n hx hb dX5_readsItem_76 rfl (lv_at hl 1 rfl) ?_
          refine va_get (ci := 5) (v := .ref (g (b + 1))) (C := RX5) (T := TX5) (N := 12) hx hb hts iw_X5_readsItem_X5 hown hK hP 0 rfl rfl 0 (by decide) (hts (.fieldLink RX5 7 "BallastTrackModel" "s" "[I") (List.mem_of_getElem? (i := 2) rfl)) (fun _ h9 => h9) rfl dX5_readsItem_77 ?_
          refine lv_iconst (v := 0) hx hb dX5_readsItem_80 (by decide) ?_
          refine va_iald hx hb hK hP 1 0 rfl rfl (by unfold vp_in; decide) dX5_readsItem_81 ?_
          refine lv_topi (fun x7477 ex7477 => ?_)
          replace hf := nm_i hf ex7477
          refine lv_iconst (v := 1) hx hb dX5_readsItem_82 (by decide) ?_
          refine lv_isub hx hb dX5_readsItem_83 ?_
          refine lv_topi (fun x7478 ex7478 => ?_)
          replace hf := nm_i hf ex7478
          obtain ⟨o7479, ho7479, hf⟩ := bd_i hf
          refine cl_i [0] [] [wM cT g b o7479.2] hP (va_D_adr hD rfl) hA hS (va_runV (As := [.int ((2 : Int32)), .int x6538, .int x7478]) (rest := []) ⟨hx, hb, hml, hown, hts⟩ (c_X5_reads l D cT g b fu o6539.2 ((2 : Int32)) x6538 x7478 o7479 ho7479 _) (cwV 3 hts gX5_readsItem_X5_reads rfl rfl rfl (by decide +kernel) ⟨Nat.le_of_ble_eq_true rfl, Nat.le_of_ble_eq_true rfl⟩) ⟨PRE_blind, va_recv hK hP (ci := 5) (q0 := 0) rfl rfl, PRE_ok [0] (by decide) hP (va_D_adr hD rfl) hA hS hK hN hZ⟩ rfl rfl hl.1 rfl (lv_room (Nat.le_of_ble_eq_true rfl)) dX5_readsItem_84 ⟨Nat.le_of_ble_eq_true rfl, Nat.le_of_ble_eq_true rfl⟩) rfl 1 rfl (by decide) (by decide) (fun H locs hP hS => ?_)
          refine lv_if_ne (tgt := 92) hx hb dX5_readsItem_87 (by decide) (fun c7480 => ?_) (fun c7480 => ?_)
          · replace hf := it_t hf c7480
            exact hK92_7000 _ _ _ _ hf hP hS (lv_sub hl [1, 2, 0] rfl)
          · replace hf := it_f hf (not_not_intro c7480)
            refine lv_iconst (v := 0) hx hb dX5_readsItem_90 (by decide) ?_
            obtain rfl := Option.some.inj hf
            subst hQ
            exact en_z (v := false) hx hb hr hP hS hlocks dX5_readsItem_91
      · replace hf := it_f hf (not_not_intro c6537)
        refine lv_iconst (v := 0) hx hb dX5_readsItem_57 (by decide) ?_
        obtain rfl := Option.some.inj hf
        subst hQ
        exact en_z (v := false) hx hb hr hP hS hlocks dX5_readsItem_58
    clear eK30_6530
    refine lv_if_ne (tgt := 30) hx hb dX5_readsItem_16 (by decide) (fun c7481 => ?_) (fun c7481 => ?_)
    · replace hf := it_t hf c7481
      exact hK30_6530 _ _ _ _ hf hP hS (lv_sub hl [1, 0] rfl)
    · replace hf := it_f hf (not_not_intro c7481)
      refine lv_aload_n hx hb dX5_readsItem_19 rfl (lv_at hl 1 rfl) ?_
      obtain ⟨o7482, ho7482, hf⟩ := bd_i hf
      refine cl_i [0] [] [wM cT g b o7482.2] hP (va_D_adr hD rfl) hA hS (va_runV (As := []) (rest := []) ⟨hx, hb, hml, hown, hts⟩ (c_X5_here l D cT g b fu o3731.2  o7482 ho7482 _) (cwV 0 hts gX5_readsItem_X5_here rfl rfl rfl (by decide +kernel) ⟨Nat.le_of_ble_eq_true rfl, Nat.le_of_ble_eq_true rfl⟩) ⟨PRE_blind, va_recv hK hP (ci := 5) (q0 := 0) rfl rfl, PRE_ok [0] (by decide) hP (va_D_adr hD rfl) hA hS hK hN hZ⟩ rfl rfl hl.1 rfl (lv_room (Nat.le_of_ble_eq_true rfl)) dX5_readsItem_20 ⟨Nat.le_of_ble_eq_true rfl, Nat.le_of_ble_eq_true rfl⟩) rfl 1 rfl (by decide) (by decide) (fun H locs hP hS => ?_)
      refine lv_bipush (v := 102) hx hb dX5_readsItem_23 (by decide) ?_
      refine lv_icmp_eq (tgt := 30) hx hb dX5_readsItem_25 (by decide) (fun c7483 => ?_) (fun c7483 => ?_)
      · replace hf := it_t hf c7483
        exact hK30_6530 _ _ _ _ hf hP hS (lv_sub hl [1, 0] rfl)
      · replace hf := it_f hf c7483
        refine lv_iconst (v := 0) hx hb dX5_readsItem_28 (by decide) ?_
        obtain rfl := Option.some.inj hf
        subst hQ
        exact en_z (v := false) hx hb hr hP hS hlocks dX5_readsItem_29
  clear eK14_5597
  refine lv_icmp_ne (tgt := 13) hx hb dX5_readsItem_6 (by decide) (fun c7484 => ?_) (fun c7484 => ?_)
  · replace hf := it_t hf c7484
    refine lv_iconst (v := 0) hx hb dX5_readsItem_13 (by decide) ?_
    exact hK14_5597 _ _ _ _ hf hP hS (lv_sub hl [0] rfl)
  · replace hf := it_f hf (not_not_intro c7484)
    refine lv_iconst (v := 1) hx hb dX5_readsItem_9 (by decide) ?_
    refine lv_goto (tgt := 14) hx hb dX5_readsItem_10 (by decide) ?_
    exact hK14_5597 _ _ _ _ hf hP hS (lv_sub hl [0] rfl)
