def f_X5_isImage (fu : Nat)  (p0 : Int32) : Option (Bool) :=
bd (f_X5_in fu  p0 ((0 : Int32)) ((1 : Int32))) fun (o2 : Bool) =>
some (o2)

abbrev rm_X5_isImage : Room := { frames := 1, cells := 0, slots := 0, locals := 22 }
set_option maxHeartbeats 4000000 in
set_option maxRecDepth 100000 in
theorem c_X5_isImage (l : Launch) (D : va_G) (cT : Nat → ClassId) (g : Nat → Nat) (fu : Nat)  (p0 : Int32) (o : Bool) (hf : f_X5_isImage fu  p0 = some o) (sz : Nat) : Met l yX5_isImage wsX5_isImage rm_X5_isImage (va_Pc [.int p0] (PRE D cT sz (List.flatten []))) (QI D (bI o) (List.flatten []) (va_A (List.flatten []) sz)) 0 0 (va_A (List.flatten []) sz) := by
  refine Met.ofW (cc := cX5_isImage) (maxL := 1) (ret := (some .boolean)) (by decide) rfl ?_
  intro p e s m args below meth c s₁ B0 hml hv
  obtain ⟨hav, hsz, hP, hK, hD, hN, hZ⟩ := hv
  have hx := B0.exec
  have hb := B0.bytes
  have hr := B0.returns
  have hts := atoms_spec (ws := wsX5_isImage) B0.pre
  have hown : s.vm.findClass RX5 = some m.cls := findClass_of_methodNamed B0.named
  have hlocks := B0.notSynchronized
  subst hsz
  have hD := hD.self (sz := s.heap.size)
  have hA : ∀ q : Nat, s.heap.size ≤ q → va_A (List.flatten []) s.heap.size q := fun q h => Or.inr h
  generalize va_A (List.flatten []) s.heap.size = A at hD hZ hA ⊢
  have hS : va_S A s.heap s.heap [] := va_S.rf
  have hl := lv_entry ([.int p0]) (n := 1) (Nat.le_of_ble_eq_true rfl)
  rw [hav]
  rw [lg_entry_eq]
  generalize (lg_sl ([.int p0]) ++ List.replicate (1 - (lg_sl ([.int p0])).length) Slot.unset).toArray = ls at hl ⊢
  have hl : lv_has ls 1 [(0, .int p0)] := hl
  rw [← hav]
  generalize hQ : MQ below _ _ _ _ _ _ = Q
  show W p l e rm_X5_isImage s m args below meth c s.heap [] 0 0 Q (F0 m 0 ls [])
  unfold f_X5_isImage at hf
  refine lv_iload_n hx hb dX5_isImage_0 rfl (lv_at hl 0 rfl) ?_
  refine lv_iconst (v := 0) hx hb dX5_isImage_1 (by decide) ?_
  refine lv_iconst (v := 1) hx hb dX5_isImage_2 (by decide) ?_
  obtain ⟨o2, ho2, hf⟩ := bd_i hf
  refine cl_i [] [] [] hP (va_D_adr hD rfl) hA hS (va_runS (As := [.int p0, .int ((0 : Int32)), .int ((1 : Int32))]) (rest := []) ⟨hx, hb, hml, hown, hts⟩ (c_X5_in l D cT g  fu  p0 ((0 : Int32)) ((1 : Int32)) o2 ho2 _) (va_cwS 3 hts gX5_isImage_X5_in rfl rfl rfl (by decide +kernel) ⟨Nat.le_of_ble_eq_true rfl, Nat.le_of_ble_eq_true rfl⟩) ⟨PRE_blind, PRE_ok [] (by decide) hP (va_D_adr hD rfl) hA hS hK hN hZ⟩ rfl rfl hl.1 rfl (lv_room (Nat.le_of_ble_eq_true rfl)) dX5_isImage_3 ⟨Nat.le_of_ble_eq_true rfl, Nat.le_of_ble_eq_true rfl⟩) rfl 0 rfl (by decide) (by decide) (fun H locs hP hS => ?_)
  obtain rfl := Option.some.inj hf
  subst hQ
  exact en_z hx hb hr hP hS hlocks dX5_isImage_6
theorem iw_X5_keep_X5 : ∀ w ∈ u_ws RX5 TX5 12, w ∈ wsX5_keep := by decide +kernel
def lb_X5_keep_12 (fu : Nat) (p0 : Int32) (rec : Int32 → TM → Option (TM)) (v33 : Int32) (u34 : TM) : Option (TM) :=
if (281 : Int32) ≤ v33 then (
some (u34)
)
else (
nm ((281 : Int32) * p0) fun (x38 : Int32) =>
nm (x38 + v33) fun (x39 : Int32) =>
ix v33 281 <|
nm ((M_ss u34) v33.toNatClampNeg) fun (x41 : Int32) =>
ix x39 562 <|
nm (M_im_ u34 (upd (M_im u34) x39.toNatClampNeg x41)) fun (u43 : TM) =>
nm (v33 + (1 : Int32)) fun (x44 : Int32) =>
rec x44 u43
)

def lf_X5_keep_12 (fu : Nat) (p0 : Int32) : Nat → Int32 → TM → Option (TM) := lq_2 (lb_X5_keep_12 fu p0)
def f_X5_keep (fu : Nat) (u_mo : TM) (p0 : Int32) : Option (Int32 × TM) :=
bd (f_X5_isImage fu  p0) fun (o21 : Bool) =>
if ¬ bI o21 = 0 then (
bd (lf_X5_keep_12 fu p0 fu ((0 : Int32)) u_mo) fun (z36 : TM) =>
nm (M_kp z36) fun (x45 : Int32) =>
nm ((1 : Int32) <<< (p0 &&& 31)) fun (x46 : Int32) =>
nm (x45 ||| x46) fun (x47 : Int32) =>
nm (M_kp_ z36 x47) fun (u48 : TM) =>
nm (M_ss u48 13) fun (x49 : Int32) =>
some (x49, u48)
)
else (
some ((-100001 : Int32), u_mo)
)

abbrev rm_X5_keep : Room := { frames := 2, cells := 0, slots := 0, locals := 42 }
set_option maxHeartbeats 4000000 in
set_option maxRecDepth 100000 in
theorem c_X5_keep (l : Launch) (D : va_G) (cT : Nat → ClassId) (g : Nat → Nat) (b : Nat) (fu : Nat) (u_mo : TM) (p0 : Int32) (o : Int32 × TM) (hf : f_X5_keep fu u_mo p0 = some o) (sz : Nat) : Met l yX5_keep wsX5_keep rm_X5_keep (va_Pc [.ref (g b), .int p0] (PRE D cT sz (List.flatten [wM cT g b u_mo]))) (QI D o.1 (List.flatten [wM cT g b o.2]) (va_A (List.flatten [wM cT g b u_mo]) sz)) 0 0 (va_A (List.flatten [wM cT g b u_mo]) sz) := by
  refine Met.ofW (cc := cX5_keep) (maxL := 3) (ret := (some .int)) (by decide) rfl ?_
  intro p e s m args below meth c s₁ B0 hml hv
  obtain ⟨hav, hsz, hP, hK, hD, hN, hZ⟩ := hv
  have hx := B0.exec
  have hb := B0.bytes
  have hr := B0.returns
  have hts := atoms_spec (ws := wsX5_keep) B0.pre
  have hown : s.vm.findClass RX5 = some m.cls := findClass_of_methodNamed B0.named
  have hlocks := B0.notSynchronized
  subst hsz
  have hD := hD.self (sz := s.heap.size)
  have hA : ∀ q : Nat, s.heap.size ≤ q → va_A (List.flatten [wM cT g b u_mo]) s.heap.size q := fun q h => Or.inr h
  generalize va_A (List.flatten [wM cT g b u_mo]) s.heap.size = A at hD hZ hA ⊢
  have hS : va_S A s.heap s.heap [] := va_S.rf
  have hl := lv_entry ([.ref (g b), .int p0]) (n := 3) (Nat.le_of_ble_eq_true rfl)
  rw [hav]
  rw [lg_entry_eq]
  generalize (lg_sl ([.ref (g b), .int p0]) ++ List.replicate (3 - (lg_sl ([.ref (g b), .int p0])).length) Slot.unset).toArray = ls at hl ⊢
  have hl : lv_has ls 3 [(0, .ref (g b)), (1, .int p0)] := hl
  rw [← hav]
  generalize hQ : MQ below _ _ _ _ _ _ = Q
  show W p l e rm_X5_keep s m args below meth c s.heap [] 0 0 Q (F0 m 0 ls [])
  unfold f_X5_keep at hf
  refine lv_iload_n hx hb dX5_keep_0 rfl (lv_at hl 1 rfl) ?_
  obtain ⟨o21, ho21, hf⟩ := bd_i hf
  refine cl_i [] [0] [wM cT g b u_mo] hP (va_D_adr hD rfl) hA hS (va_runS (As := [.int p0]) (rest := []) ⟨hx, hb, hml, hown, hts⟩ (c_X5_isImage l D cT g  fu  p0 o21 ho21 _) (va_cwS 1 hts gX5_keep_X5_isImage rfl rfl rfl (by decide +kernel) ⟨Nat.le_of_ble_eq_true rfl, Nat.le_of_ble_eq_true rfl⟩) ⟨PRE_blind, PRE_ok [] (by decide) hP (va_D_adr hD rfl) hA hS hK hN hZ⟩ rfl rfl hl.1 rfl (lv_room (Nat.le_of_ble_eq_true rfl)) dX5_keep_1 ⟨Nat.le_of_ble_eq_true rfl, Nat.le_of_ble_eq_true rfl⟩) rfl 1 rfl (by decide) (by decide) (fun H locs hP hS => ?_)
  refine lv_if_ne (tgt := 10) hx hb dX5_keep_4 (by decide) (fun c22 => ?_) (fun c22 => ?_)
  · replace hf := it_t hf c22
    refine lv_iconst (v := 0) hx hb dX5_keep_10 (by decide) ?_
    refine lv_istore_n (lv' := [(2, .int ((0 : Int32))), (0, .ref (g b)), (1, .int p0)]) hx hb dX5_keep_11 rfl hl (by decide) rfl (fun ls hl => ?_)
    obtain ⟨z36, hz36, hf⟩ := bd_i hf
    have hL12 : ∀ (n : Nat) (v33 : Int32) (u34 : TM) (z35 : TM), lf_X5_keep_12 fu p0 n v33 u34 = some z35 → ∀ (H : Heap) (locs : List Loc) (ls : Array Slot), va_P D vwCl (List.flatten [wM cT g b u34]) H → va_S A s.heap H locs → lv_has ls 3 [(0, .ref (g b)), (1, .int p0), (2, .int v33)] → (∀ (H : Heap) (locs : List Loc) (ls : Array Slot), va_P D vwCl (List.flatten [wM cT g b z35]) H → va_S A s.heap H locs → lv_has ls 3 [(0, .ref (g b)), (1, .int p0)] → W p l e rm_X5_keep s m args below meth c H locs 0 0 Q (F0 m 43 ls [])) → W p l e rm_X5_keep s m args below meth c H locs 0 0 Q (F0 m 12 ls []) := by
      refine lq_2_ind (F := lb_X5_keep_12 fu p0) (fun rec ih v33 u34 z35 hf H locs ls hP hS hl kx => ?_)
      unfold lb_X5_keep_12 at hf
      refine lv_iload_n hx hb dX5_keep_12 rfl (lv_at hl 2 rfl) ?_
      refine lv_sipush (v := 281) hx hb dX5_keep_13 (by decide) ?_
      refine lv_icmp_ge (tgt := 43) hx hb dX5_keep_16 (by decide) (fun c37 => ?_) (fun c37 => ?_)
      · replace hf := it_t hf c37
        obtain rfl := Option.some.inj hf
        exact kx _ _ _ hP hS (lv_sub hl [0, 1] rfl)
      · replace hf := it_f hf c37
        refine lv_aload_n hx hb dX5_keep_19 rfl (lv_at hl 0 rfl) ?_
        refine va_get (ci := 5) (v := .ref (g (b + 3))) (C := RX5) (T := TX5) (N := 12) hx hb hts iw_X5_keep_X5 hown hK hP 0 rfl rfl 3 (by decide) (hts (.fieldLink RX5 16 "BallastTrackModel" "images" "[I") (List.mem_of_getElem? (i := 2) rfl)) (fun _ h9 => h9) rfl dX5_keep_20 ?_
        refine lv_sipush (v := 281) hx hb dX5_keep_23 (by decide) ?_
        refine lv_iload_n hx hb dX5_keep_26 rfl (lv_at hl 1 rfl) ?_
        refine lv_imul hx hb dX5_keep_27 ?_
        refine lv_topi (fun x38 ex38 => ?_)
        replace hf := nm_i hf ex38
        refine lv_iload_n hx hb dX5_keep_28 rfl (lv_at hl 2 rfl) ?_
        refine lv_iadd hx hb dX5_keep_29 ?_
        refine lv_topi (fun x39 ex39 => ?_)
        replace hf := nm_i hf ex39
        refine lv_aload_n hx hb dX5_keep_30 rfl (lv_at hl 0 rfl) ?_
        refine va_get (ci := 5) (v := .ref (g (b + 1))) (C := RX5) (T := TX5) (N := 12) hx hb hts iw_X5_keep_X5 hown hK hP 0 rfl rfl 0 (by decide) (hts (.fieldLink RX5 7 "BallastTrackModel" "s" "[I") (List.mem_of_getElem? (i := 3) rfl)) (fun _ h9 => h9) rfl dX5_keep_31 ?_
        refine lv_iload_n hx hb dX5_keep_34 rfl (lv_at hl 2 rfl) ?_
        obtain ⟨hi40, hf⟩ := ix_i hf
        refine va_iald hx hb hK hP 1 0 rfl rfl hi40 dX5_keep_35 ?_
        refine lv_topi (fun x41 ex41 => ?_)
        replace hf := nm_i hf ex41
        obtain ⟨hi42, hf⟩ := ix_i hf
        refine va_iast hx hb hK hP (va_D_adr hD rfl) hS 3 0 rfl rfl hi42 dX5_keep_36 (fun H locs hP _ hS => ?_)
        obtain ⟨u43, eu43⟩ : ∃ z : TM, z = M_im_ u34 (upd (M_im u34) x39.toNatClampNeg x41) := ⟨_, rfl⟩
        replace hf := nm_i hf eu43
        have hP : va_P D vwCl (List.flatten [wM cT g b u43]) H := by rw [eu43]; exact hP
        obtain ⟨x44, ex44⟩ : ∃ z : Int32, z = v33 + (1 : Int32) := ⟨_, rfl⟩
        replace hf := nm_i hf ex44
        refine lv_iinc (v := x44) (lv' := [(2, .int x44), (0, .ref (g b)), (1, .int p0)]) hx hb dX5_keep_37 hl (k := 2) rfl (by rw [ex44]; rfl) (by decide) rfl (fun ls hl => ?_)
        refine lv_goto (tgt := 12) hx hb dX5_keep_40 (by decide) ?_
        exact ih _ _ _ hf _ _ _ hP hS (lv_sub hl [1, 2, 0] rfl) kx
    refine hL12 fu _ _ _ hz36 _ _ _ hP hS (lv_sub hl [1, 2, 0] rfl) (fun H locs ls hP hS hl => ?_)
    refine lv_aload_n hx hb dX5_keep_43 rfl (lv_at hl 0 rfl) ?_
    refine lv_dup hx hb dX5_keep_44 rfl ?_
    refine va_get (ci := 5) (v := .int (M_kp z36)) (C := RX5) (T := TX5) (N := 12) hx hb hts iw_X5_keep_X5 hown hK hP 0 rfl rfl 4 (by decide) (hts (.fieldLink RX5 159 "BallastTrackModel" "kept" "I") (List.mem_of_getElem? (i := 4) rfl)) (fun _ h9 => h9) rfl dX5_keep_45 ?_
    refine lv_topi (fun x45 ex45 => ?_)
    replace hf := nm_i hf ex45
    refine lv_iconst (v := 1) hx hb dX5_keep_48 (by decide) ?_
    refine lv_iload_n hx hb dX5_keep_49 rfl (lv_at hl 1 rfl) ?_
    refine lv_ishl hx hb dX5_keep_50 ?_
    refine lv_topi (fun x46 ex46 => ?_)
    replace hf := nm_i hf ex46
    refine lv_ior hx hb dX5_keep_51 ?_
    refine lv_topi (fun x47 ex47 => ?_)
    replace hf := nm_i hf ex47
    refine va_put (ci := 5) (v := .int x47) (ty := .int) (C := RX5) (T := TX5) (N := 12) hx hb hts iw_X5_keep_X5 tyX5 tyX5_ok nmX5 hown hK hP (va_D_adr hD rfl) hS 0 rfl rfl 4 (by decide) (hts (.fieldLink RX5 159 "BallastTrackModel" "kept" "I") (List.mem_of_getElem? (i := 4) rfl)) (fun _ h9 => h9) rfl (by decide +kernel) rfl rfl (Nat.le_of_ble_eq_true rfl) dX5_keep_52 (fun H locs hP _ hS => ?_)
    obtain ⟨u48, eu48⟩ : ∃ z : TM, z = M_kp_ z36 x47 := ⟨_, rfl⟩
    replace hf := nm_i hf eu48
    have hP : va_P D vwCl (List.flatten [wM cT g b u48]) H := by rw [eu48]; exact hP
    refine lv_aload_n hx hb dX5_keep_55 rfl (lv_at hl 0 rfl) ?_
    refine va_get (ci := 5) (v := .ref (g (b + 1))) (C := RX5) (T := TX5) (N := 12) hx hb hts iw_X5_keep_X5 hown hK hP 0 rfl rfl 0 (by decide) (hts (.fieldLink RX5 7 "BallastTrackModel" "s" "[I") (List.mem_of_getElem? (i := 3) rfl)) (fun _ h9 => h9) rfl dX5_keep_56 ?_
    refine lv_bipush (v := 13) hx hb dX5_keep_59 (by decide) ?_
    refine va_iald hx hb hK hP 1 0 rfl rfl (by unfold vp_in; decide) dX5_keep_61 ?_
    refine lv_topi (fun x49 ex49 => ?_)
    replace hf := nm_i hf ex49
    obtain rfl := Option.some.inj hf
    subst hQ
    exact en_i hx hb hr hP hS hlocks dX5_keep_62
  · replace hf := it_f hf (not_not_intro c22)
    refine lv_ldc (v := -100001) hx hb hown (hts (.constant RX5 68 (-100001)) (List.mem_of_getElem? (i := 1) rfl)) dX5_keep_7 ?_
    obtain rfl := Option.some.inj hf
    subst hQ
    exact en_i hx hb hr hP hS hlocks dX5_keep_9
theorem iw_X5_back_X5 : ∀ w ∈ u_ws RX5 TX5 12, w ∈ wsX5_back := by decide +kernel
def lb_X5_back_30 (fu : Nat) (p0 : Int32) (rec : Int32 → TM → Option (TM)) (v39 : Int32) (u40 : TM) : Option (TM) :=
if (281 : Int32) ≤ v39 then (
some (u40)
)
else (
nm ((281 : Int32) * p0) fun (x44 : Int32) =>
nm (x44 + v39) fun (x45 : Int32) =>
ix x45 562 <|
nm ((M_im u40) x45.toNatClampNeg) fun (x47 : Int32) =>
ix v39 281 <|
nm (M_ss_ u40 (upd (M_ss u40) v39.toNatClampNeg x47)) fun (u49 : TM) =>
nm (v39 + (1 : Int32)) fun (x50 : Int32) =>
rec x50 u49
)

def lf_X5_back_30 (fu : Nat) (p0 : Int32) : Nat → Int32 → TM → Option (TM) := lq_2 (lb_X5_back_30 fu p0)
def f_X5_back (fu : Nat) (u_mo : TM) (p0 : Int32) : Option (Int32 × TM) :=
bd (f_X5_isImage fu  p0) fun (o22 : Bool) =>
if ¬ bI o22 = 0 then (
nm (M_kp u_mo) fun (x24 : Int32) =>
nm (x24 >>> (p0 &&& 31)) fun (x25 : Int32) =>
nm (x25 &&& (1 : Int32)) fun (x26 : Int32) =>
if ¬ x26 = 0 then (
bd (f_X5_notes fu u_mo ) fun (o28 : TM) =>
bd (lf_X5_back_30 fu p0 fu ((0 : Int32)) o28) fun (z42 : TM) =>
nm (M_ss z42 13) fun (x51 : Int32) =>
some (x51, z42)
)
else (
some ((-100002 : Int32), u_mo)
)
)
else (
some ((-100001 : Int32), u_mo)
)

abbrev rm_X5_back : Room := { frames := 2, cells := 0, slots := 0, locals := 42 }
set_option maxHeartbeats 4000000 in
set_option maxRecDepth 100000 in
theorem c_X5_back (l : Launch) (D : va_G) (cT : Nat → ClassId) (g : Nat → Nat) (b : Nat) (fu : Nat) (u_mo : TM) (p0 : Int32) (o : Int32 × TM) (hf : f_X5_back fu u_mo p0 = some o) (sz : Nat) : Met l yX5_back wsX5_back rm_X5_back (va_Pc [.ref (g b), .int p0] (PRE D cT sz (List.flatten [wM cT g b u_mo]))) (QI D o.1 (List.flatten [wM cT g b o.2]) (va_A (List.flatten [wM cT g b u_mo]) sz)) 0 0 (va_A (List.flatten [wM cT g b u_mo]) sz) := by
  refine Met.ofW (cc := cX5_back) (maxL := 3) (ret := (some .int)) (by decide) rfl ?_
  intro p e s m args below meth c s₁ B0 hml hv
  obtain ⟨hav, hsz, hP, hK, hD, hN, hZ⟩ := hv
  have hx := B0.exec
  have hb := B0.bytes
  have hr := B0.returns
  have hts := atoms_spec (ws := wsX5_back) B0.pre
  have hown : s.vm.findClass RX5 = some m.cls := findClass_of_methodNamed B0.named
  have hlocks := B0.notSynchronized
  subst hsz
  have hD := hD.self (sz := s.heap.size)
  have hA : ∀ q : Nat, s.heap.size ≤ q → va_A (List.flatten [wM cT g b u_mo]) s.heap.size q := fun q h => Or.inr h
  generalize va_A (List.flatten [wM cT g b u_mo]) s.heap.size = A at hD hZ hA ⊢
  have hS : va_S A s.heap s.heap [] := va_S.rf
  have hl := lv_entry ([.ref (g b), .int p0]) (n := 3) (Nat.le_of_ble_eq_true rfl)
  rw [hav]
  rw [lg_entry_eq]
  generalize (lg_sl ([.ref (g b), .int p0]) ++ List.replicate (3 - (lg_sl ([.ref (g b), .int p0])).length) Slot.unset).toArray = ls at hl ⊢
  have hl : lv_has ls 3 [(0, .ref (g b)), (1, .int p0)] := hl
  rw [← hav]
  generalize hQ : MQ below _ _ _ _ _ _ = Q
  show W p l e rm_X5_back s m args below meth c s.heap [] 0 0 Q (F0 m 0 ls [])
  unfold f_X5_back at hf
  refine lv_iload_n hx hb dX5_back_0 rfl (lv_at hl 1 rfl) ?_
  obtain ⟨o22, ho22, hf⟩ := bd_i hf
  refine cl_i [] [0] [wM cT g b u_mo] hP (va_D_adr hD rfl) hA hS (va_runS (As := [.int p0]) (rest := []) ⟨hx, hb, hml, hown, hts⟩ (c_X5_isImage l D cT g  fu  p0 o22 ho22 _) (va_cwS 1 hts gX5_back_X5_isImage rfl rfl rfl (by decide +kernel) ⟨Nat.le_of_ble_eq_true rfl, Nat.le_of_ble_eq_true rfl⟩) ⟨PRE_blind, PRE_ok [] (by decide) hP (va_D_adr hD rfl) hA hS hK hN hZ⟩ rfl rfl hl.1 rfl (lv_room (Nat.le_of_ble_eq_true rfl)) dX5_back_1 ⟨Nat.le_of_ble_eq_true rfl, Nat.le_of_ble_eq_true rfl⟩) rfl 1 rfl (by decide) (by decide) (fun H locs hP hS => ?_)
  refine lv_if_ne (tgt := 10) hx hb dX5_back_4 (by decide) (fun c23 => ?_) (fun c23 => ?_)
  · replace hf := it_t hf c23
    refine lv_aload_n hx hb dX5_back_10 rfl (lv_at hl 0 rfl) ?_
    refine va_get (ci := 5) (v := .int (M_kp u_mo)) (C := RX5) (T := TX5) (N := 12) hx hb hts iw_X5_back_X5 hown hK hP 0 rfl rfl 4 (by decide) (hts (.fieldLink RX5 159 "BallastTrackModel" "kept" "I") (List.mem_of_getElem? (i := 2) rfl)) (fun _ h9 => h9) rfl dX5_back_11 ?_
    refine lv_topi (fun x24 ex24 => ?_)
    replace hf := nm_i hf ex24
    refine lv_iload_n hx hb dX5_back_14 rfl (lv_at hl 1 rfl) ?_
    refine lv_ishr hx hb dX5_back_15 ?_
    refine lv_topi (fun x25 ex25 => ?_)
    replace hf := nm_i hf ex25
    refine lv_iconst (v := 1) hx hb dX5_back_16 (by decide) ?_
    refine lv_iand hx hb dX5_back_17 ?_
    refine lv_topi (fun x26 ex26 => ?_)
    replace hf := nm_i hf ex26
    refine lv_if_ne (tgt := 24) hx hb dX5_back_18 (by decide) (fun c27 => ?_) (fun c27 => ?_)
    · replace hf := it_t hf c27
      refine lv_aload_n hx hb dX5_back_24 rfl (lv_at hl 0 rfl) ?_
      obtain ⟨o28, ho28, hf⟩ := bd_i hf
      refine cl_v [0] [] [wM cT g b o28] hP (va_D_adr hD rfl) hA hS (va_runV (As := []) (rest := []) ⟨hx, hb, hml, hown, hts⟩ (c_X5_notes l D cT g b fu u_mo  o28 ho28 _) (cwV 0 hts gX5_back_X5_notes rfl rfl rfl (by decide +kernel) ⟨Nat.le_of_ble_eq_true rfl, Nat.le_of_ble_eq_true rfl⟩) ⟨PRE_blind, va_recv hK hP (ci := 5) (q0 := 0) rfl rfl, PRE_ok [0] (by decide) hP (va_D_adr hD rfl) hA hS hK hN hZ⟩ rfl rfl hl.1 rfl (lv_room (Nat.le_of_ble_eq_true rfl)) dX5_back_25 ⟨Nat.le_of_ble_eq_true rfl, Nat.le_of_ble_eq_true rfl⟩) rfl 1 rfl (by decide) (by decide) (fun H locs hP hS => ?_)
      refine lv_iconst (v := 0) hx hb dX5_back_28 (by decide) ?_
      refine lv_istore_n (lv' := [(2, .int ((0 : Int32))), (0, .ref (g b)), (1, .int p0)]) hx hb dX5_back_29 rfl hl (by decide) rfl (fun ls hl => ?_)
      obtain ⟨z42, hz42, hf⟩ := bd_i hf
      have hL30 : ∀ (n : Nat) (v39 : Int32) (u40 : TM) (z41 : TM), lf_X5_back_30 fu p0 n v39 u40 = some z41 → ∀ (H : Heap) (locs : List Loc) (ls : Array Slot), va_P D vwCl (List.flatten [wM cT g b u40]) H → va_S A s.heap H locs → lv_has ls 3 [(0, .ref (g b)), (1, .int p0), (2, .int v39)] → (∀ (H : Heap) (locs : List Loc) (ls : Array Slot), va_P D vwCl (List.flatten [wM cT g b z41]) H → va_S A s.heap H locs → lv_has ls 3 [(0, .ref (g b))] → W p l e rm_X5_back s m args below meth c H locs 0 0 Q (F0 m 61 ls [])) → W p l e rm_X5_back s m args below meth c H locs 0 0 Q (F0 m 30 ls []) := by
        refine lq_2_ind (F := lb_X5_back_30 fu p0) (fun rec ih v39 u40 z41 hf H locs ls hP hS hl kx => ?_)
        unfold lb_X5_back_30 at hf
        refine lv_iload_n hx hb dX5_back_30 rfl (lv_at hl 2 rfl) ?_
        refine lv_sipush (v := 281) hx hb dX5_back_31 (by decide) ?_
        refine lv_icmp_ge (tgt := 61) hx hb dX5_back_34 (by decide) (fun c43 => ?_) (fun c43 => ?_)
        · replace hf := it_t hf c43
          obtain rfl := Option.some.inj hf
          exact kx _ _ _ hP hS (lv_sub hl [0] rfl)
        · replace hf := it_f hf c43
          refine lv_aload_n hx hb dX5_back_37 rfl (lv_at hl 0 rfl) ?_
          refine va_get (ci := 5) (v := .ref (g (b + 1))) (C := RX5) (T := TX5) (N := 12) hx hb hts iw_X5_back_X5 hown hK hP 0 rfl rfl 0 (by decide) (hts (.fieldLink RX5 7 "BallastTrackModel" "s" "[I") (List.mem_of_getElem? (i := 4) rfl)) (fun _ h9 => h9) rfl dX5_back_38 ?_
          refine lv_iload_n hx hb dX5_back_41 rfl (lv_at hl 2 rfl) ?_
          refine lv_aload_n hx hb dX5_back_42 rfl (lv_at hl 0 rfl) ?_
          refine va_get (ci := 5) (v := .ref (g (b + 3))) (C := RX5) (T := TX5) (N := 12) hx hb hts iw_X5_back_X5 hown hK hP 0 rfl rfl 3 (by decide) (hts (.fieldLink RX5 16 "BallastTrackModel" "images" "[I") (List.mem_of_getElem? (i := 5) rfl)) (fun _ h9 => h9) rfl dX5_back_43 ?_
          refine lv_sipush (v := 281) hx hb dX5_back_46 (by decide) ?_
          refine lv_iload_n hx hb dX5_back_49 rfl (lv_at hl 1 rfl) ?_
          refine lv_imul hx hb dX5_back_50 ?_
          refine lv_topi (fun x44 ex44 => ?_)
          replace hf := nm_i hf ex44
          refine lv_iload_n hx hb dX5_back_51 rfl (lv_at hl 2 rfl) ?_
          refine lv_iadd hx hb dX5_back_52 ?_
          refine lv_topi (fun x45 ex45 => ?_)
          replace hf := nm_i hf ex45
          obtain ⟨hi46, hf⟩ := ix_i hf
          refine va_iald hx hb hK hP 3 0 rfl rfl hi46 dX5_back_53 ?_
          refine lv_topi (fun x47 ex47 => ?_)
          replace hf := nm_i hf ex47
          obtain ⟨hi48, hf⟩ := ix_i hf
          refine va_iast hx hb hK hP (va_D_adr hD rfl) hS 1 0 rfl rfl hi48 dX5_back_54 (fun H locs hP _ hS => ?_)
          obtain ⟨u49, eu49⟩ : ∃ z : TM, z = M_ss_ u40 (upd (M_ss u40) v39.toNatClampNeg x47) := ⟨_, rfl⟩
          replace hf := nm_i hf eu49
          have hP : va_P D vwCl (List.flatten [wM cT g b u49]) H := by rw [eu49]; exact hP
          obtain ⟨x50, ex50⟩ : ∃ z : Int32, z = v39 + (1 : Int32) := ⟨_, rfl⟩
          replace hf := nm_i hf ex50
          refine lv_iinc (v := x50) (lv' := [(2, .int x50), (0, .ref (g b)), (1, .int p0)]) hx hb dX5_back_55 hl (k := 2) rfl (by rw [ex50]; rfl) (by decide) rfl (fun ls hl => ?_)
          refine lv_goto (tgt := 30) hx hb dX5_back_58 (by decide) ?_
          exact ih _ _ _ hf _ _ _ hP hS (lv_sub hl [1, 2, 0] rfl) kx
      refine hL30 fu _ _ _ hz42 _ _ _ hP hS (lv_sub hl [1, 2, 0] rfl) (fun H locs ls hP hS hl => ?_)
      refine lv_aload_n hx hb dX5_back_61 rfl (lv_at hl 0 rfl) ?_
      refine va_get (ci := 5) (v := .ref (g (b + 1))) (C := RX5) (T := TX5) (N := 12) hx hb hts iw_X5_back_X5 hown hK hP 0 rfl rfl 0 (by decide) (hts (.fieldLink RX5 7 "BallastTrackModel" "s" "[I") (List.mem_of_getElem? (i := 4) rfl)) (fun _ h9 => h9) rfl dX5_back_62 ?_
      refine lv_bipush (v := 13) hx hb dX5_back_65 (by decide) ?_
      refine va_iald hx hb hK hP 1 0 rfl rfl (by unfold vp_in; decide) dX5_back_67 ?_
      refine lv_topi (fun x51 ex51 => ?_)
      replace hf := nm_i hf ex51
      obtain rfl := Option.some.inj hf
      subst hQ
      exact en_i hx hb hr hP hS hlocks dX5_back_68
    · replace hf := it_f hf (not_not_intro c27)
      refine lv_ldc (v := -100002) hx hb hown (hts (.constant RX5 36 (-100002)) (List.mem_of_getElem? (i := 3) rfl)) dX5_back_21 ?_
      obtain rfl := Option.some.inj hf
      subst hQ
      exact en_i hx hb hr hP hS hlocks dX5_back_23
  · replace hf := it_f hf (not_not_intro c23)
    refine lv_ldc (v := -100001) hx hb hown (hts (.constant RX5 68 (-100001)) (List.mem_of_getElem? (i := 1) rfl)) dX5_back_7 ?_
    obtain rfl := Option.some.inj hf
    subst hQ
    exact en_i hx hb hr hP hS hlocks dX5_back_9
theorem iw_X5_hanging_X5 : ∀ w ∈ u_ws RX5 TX5 12, w ∈ wsX5_hanging := by decide +kernel
def lb_X5_hanging_4 (fu : Nat) (u_mo : TM) (rec : Int32 → Int32 → Option (Int32)) (v30 : Int32) (v31 : Int32) : Option (Int32) :=
nm (M_ss u_mo 0) fun (x34 : Int32) =>
if x34 ≤ v31 then (
some (v30)
)
else (
bd (f_X5_hangs fu u_mo v31) fun (o36 : Bool) =>
jn (fun (x38 : Int32) =>
nm (v30 + x38) fun (x42 : Int32) =>
nm (v31 + (1 : Int32)) fun (x43 : Int32) =>
rec x42 x43
) fun K28_41 =>
if bI o36 = 0 then (
K28_41 ((0 : Int32))
)
else (
K28_41 ((1 : Int32))
)
)

def lf_X5_hanging_4 (fu : Nat) (u_mo : TM) : Nat → Int32 → Int32 → Option (Int32) := lq_2 (lb_X5_hanging_4 fu u_mo)
def f_X5_hanging (fu : Nat) (u_mo : TM)  : Option (Int32) :=
bd (lf_X5_hanging_4 fu u_mo fu ((0 : Int32)) ((0 : Int32))) fun (z33 : Int32) =>
some (z33)

abbrev rm_X5_hanging : Room := { frames := 2, cells := 0, slots := 0, locals := 42 }
set_option maxHeartbeats 4000000 in
set_option maxRecDepth 100000 in
theorem c_X5_hanging (l : Launch) (D : va_G) (cT : Nat → ClassId) (g : Nat → Nat) (b : Nat) (fu : Nat) (u_mo : TM)  (o : Int32) (hf : f_X5_hanging fu u_mo  = some o) (sz : Nat) : Met l yX5_hanging wsX5_hanging rm_X5_hanging (va_Pc [.ref (g b)] (PRE D cT sz (List.flatten [wM cT g b u_mo]))) (QI D o (List.flatten [wM cT g b u_mo]) (va_A (List.flatten [wM cT g b u_mo]) sz)) 0 0 (va_A (List.flatten [wM cT g b u_mo]) sz) := by
  refine Met.ofW (cc := cX5_hanging) (maxL := 3) (ret := (some .int)) (by decide) rfl ?_
  intro p e s m args below meth c s₁ B0 hml hv
  obtain ⟨hav, hsz, hP, hK, hD, hN, hZ⟩ := hv
  have hx := B0.exec
  have hb := B0.bytes
  have hr := B0.returns
  have hts := atoms_spec (ws := wsX5_hanging) B0.pre
  have hown : s.vm.findClass RX5 = some m.cls := findClass_of_methodNamed B0.named
  have hlocks := B0.notSynchronized
  subst hsz
  have hD := hD.self (sz := s.heap.size)
  have hA : ∀ q : Nat, s.heap.size ≤ q → va_A (List.flatten [wM cT g b u_mo]) s.heap.size q := fun q h => Or.inr h
  generalize va_A (List.flatten [wM cT g b u_mo]) s.heap.size = A at hD hZ hA ⊢
  have hS : va_S A s.heap s.heap [] := va_S.rf
  have hl := lv_entry ([.ref (g b)]) (n := 3) (Nat.le_of_ble_eq_true rfl)
  rw [hav]
  rw [lg_entry_eq]
  generalize (lg_sl ([.ref (g b)]) ++ List.replicate (3 - (lg_sl ([.ref (g b)])).length) Slot.unset).toArray = ls at hl ⊢
  have hl : lv_has ls 3 [(0, .ref (g b))] := hl
  rw [← hav]
  generalize hQ : MQ below _ _ _ _ _ _ = Q
  show W p l e rm_X5_hanging s m args below meth c s.heap [] 0 0 Q (F0 m 0 ls [])
  unfold f_X5_hanging at hf
  refine lv_iconst (v := 0) hx hb dX5_hanging_0 (by decide) ?_
  refine lv_istore_n (lv' := [(1, .int ((0 : Int32))), (0, .ref (g b))]) hx hb dX5_hanging_1 rfl hl (by decide) rfl (fun ls hl => ?_)
  refine lv_iconst (v := 0) hx hb dX5_hanging_2 (by decide) ?_
  refine lv_istore_n (lv' := [(2, .int ((0 : Int32))), (1, .int ((0 : Int32))), (0, .ref (g b))]) hx hb dX5_hanging_3 rfl hl (by decide) rfl (fun ls hl => ?_)
  obtain ⟨z33, hz33, hf⟩ := bd_i hf
  have hL4 : ∀ (n : Nat) (v30 : Int32) (v31 : Int32) (z32 : Int32), lf_X5_hanging_4 fu u_mo n v30 v31 = some z32 → ∀ (H : Heap) (locs : List Loc) (ls : Array Slot), va_P D vwCl (List.flatten [wM cT g b u_mo]) H → va_S A s.heap H locs → lv_has ls 3 [(0, .ref (g b)), (1, .int v30), (2, .int v31)] → (∀ (H : Heap) (locs : List Loc) (ls : Array Slot), va_P D vwCl (List.flatten [wM cT g b u_mo]) H → va_S A s.heap H locs → lv_has ls 3 [(1, .int z32)] → W p l e rm_X5_hanging s m args below meth c H locs 0 0 Q (F0 m 36 ls [])) → W p l e rm_X5_hanging s m args below meth c H locs 0 0 Q (F0 m 4 ls []) := by
    refine lq_2_ind (F := lb_X5_hanging_4 fu u_mo) (fun rec ih v30 v31 z32 hf H locs ls hP hS hl kx => ?_)
    unfold lb_X5_hanging_4 at hf
    refine lv_iload_n hx hb dX5_hanging_4 rfl (lv_at hl 2 rfl) ?_
    refine lv_aload_n hx hb dX5_hanging_5 rfl (lv_at hl 0 rfl) ?_
    refine va_get (ci := 5) (v := .ref (g (b + 1))) (C := RX5) (T := TX5) (N := 12) hx hb hts iw_X5_hanging_X5 hown hK hP 0 rfl rfl 0 (by decide) (hts (.fieldLink RX5 7 "BallastTrackModel" "s" "[I") (List.mem_of_getElem? (i := 1) rfl)) (fun _ h9 => h9) rfl dX5_hanging_6 ?_
    refine lv_iconst (v := 0) hx hb dX5_hanging_9 (by decide) ?_
    refine va_iald hx hb hK hP 1 0 rfl rfl (by unfold vp_in; decide) dX5_hanging_10 ?_
    refine lv_topi (fun x34 ex34 => ?_)
    replace hf := nm_i hf ex34
    refine lv_icmp_ge (tgt := 36) hx hb dX5_hanging_11 (by decide) (fun c35 => ?_) (fun c35 => ?_)
    · replace hf := it_t hf c35
      obtain rfl := Option.some.inj hf
      exact kx _ _ _ hP hS (lv_sub hl [1] rfl)
    · replace hf := it_f hf c35
      refine lv_iload_n hx hb dX5_hanging_14 rfl (lv_at hl 1 rfl) ?_
      refine lv_aload_n hx hb dX5_hanging_15 rfl (lv_at hl 0 rfl) ?_
      refine lv_iload_n hx hb dX5_hanging_16 rfl (lv_at hl 2 rfl) ?_
      obtain ⟨o36, ho36, hf⟩ := bd_i hf
      refine cl_i [0] [] [wM cT g b u_mo] hP (va_D_adr hD rfl) hA hS (va_runV (As := [.int v31]) (rest := [.int v30]) ⟨hx, hb, hml, hown, hts⟩ (c_X5_hangs l D cT g b fu u_mo v31 o36 ho36 _) (cwV 1 hts gX5_hanging_X5_hangs rfl rfl rfl (by decide +kernel) ⟨Nat.le_of_ble_eq_true rfl, Nat.le_of_ble_eq_true rfl⟩) ⟨PRE_blind, va_recv hK hP (ci := 5) (q0 := 0) rfl rfl, PRE_ok [0] (by decide) hP (va_D_adr hD rfl) hA hS hK hN hZ⟩ rfl rfl hl.1 rfl (lv_room (Nat.le_of_ble_eq_true rfl)) dX5_hanging_17 ⟨Nat.le_of_ble_eq_true rfl, Nat.le_of_ble_eq_true rfl⟩) rfl 1 rfl (by decide) (by decide) (fun H locs hP hS => ?_)
      obtain ⟨K28_41, eK28_41, hf⟩ := jn_i hf
      have hK28_41 : ∀ (x38 : Int32) (H : Heap) (locs : List Loc) (ls : Array Slot), K28_41 x38 = some z32 → va_P D vwCl (List.flatten [wM cT g b u_mo]) H → va_S A s.heap H locs → lv_has ls 3 [(0, .ref (g b)), (2, .int v31)] → W p l e rm_X5_hanging s m args below meth c H locs 0 0 Q (F0 m 28 ls [.int x38, .int v30]) := by
        intro x38 H locs ls hf hP hS hl
        rw [eK28_41] at hf
        refine lv_iadd hx hb dX5_hanging_28 ?_
        refine lv_topi (fun x42 ex42 => ?_)
        replace hf := nm_i hf ex42
        refine lv_istore_n (lv' := [(1, .int x42), (0, .ref (g b)), (2, .int v31)]) hx hb dX5_hanging_29 rfl hl (by decide) rfl (fun ls hl => ?_)
        obtain ⟨x43, ex43⟩ : ∃ z : Int32, z = v31 + (1 : Int32) := ⟨_, rfl⟩
        replace hf := nm_i hf ex43
        refine lv_iinc (v := x43) (lv' := [(2, .int x43), (1, .int x42), (0, .ref (g b))]) hx hb dX5_hanging_30 hl (k := 2) rfl (by rw [ex43]; rfl) (by decide) rfl (fun ls hl => ?_)
        refine lv_goto (tgt := 4) hx hb dX5_hanging_33 (by decide) ?_
        exact ih _ _ _ hf _ _ _ hP hS (lv_sub hl [2, 1, 0] rfl) kx
      clear eK28_41
      refine lv_if_eq (tgt := 27) hx hb dX5_hanging_20 (by decide) (fun c44 => ?_) (fun c44 => ?_)
      · replace hf := it_t hf c44
        refine lv_iconst (v := 0) hx hb dX5_hanging_27 (by decide) ?_
        exact hK28_41 _ _ _ _ hf hP hS (lv_sub hl [0, 2] rfl)
      · replace hf := it_f hf c44
        refine lv_iconst (v := 1) hx hb dX5_hanging_23 (by decide) ?_
        refine lv_goto (tgt := 28) hx hb dX5_hanging_24 (by decide) ?_
        exact hK28_41 _ _ _ _ hf hP hS (lv_sub hl [0, 2] rfl)
  refine hL4 fu _ _ _ hz33 _ _ _ hP hS (lv_sub hl [2, 1, 0] rfl) (fun H locs ls hP hS hl => ?_)
  refine lv_iload_n hx hb dX5_hanging_36 rfl (lv_at hl 0 rfl) ?_
  obtain rfl := Option.some.inj hf
  subst hQ
  exact en_i hx hb hr hP hS hlocks dX5_hanging_37
theorem iw_X5_count_X5 : ∀ w ∈ u_ws RX5 TX5 12, w ∈ wsX5_count := by decide +kernel
def f_X5_count (fu : Nat) (u_mo : TM) (p0 : Int32) : Option (Int32 × TM) :=
bd (f_X5_laysRail fu u_mo ) fun (o18 : TM) =>
if p0 = (9 : Int32) then (
nm (M_ss o18 16) fun (x20 : Int32) =>
some (x20, o18)
)
else if p0 = (10 : Int32) then (
bd (f_X5_hanging fu o18 ) fun (o22 : Int32) =>
some (o22, o18)
)
else if p0 = (11 : Int32) then (
bd (f_X5_order fu o18 ) fun (o24 : Int32) =>
some (o24, o18)
)
else if p0 = (12 : Int32) then (
nm (M_ty o18) fun (x26 : Int32) =>
some (x26, o18)
)
else if p0 = (13 : Int32) then (
nm (M_ps o18) fun (x28 : Int32) =>
some (x28, o18)
)
else if p0 = (14 : Int32) then (
nm (M_kp o18) fun (x30 : Int32) =>
some (x30, o18)
)
else (
bd (f_X5_in fu  p0 ((0 : Int32)) ((8 : Int32))) fun (o31 : Bool) =>
if bI o31 = 0 then (
some ((-100001 : Int32), o18)
)
else (
ix p0 281 <|
nm ((M_ss o18) p0.toNatClampNeg) fun (x34 : Int32) =>
some (x34, o18)
)
)

abbrev rm_X5_count : Room := { frames := 3, cells := 0, slots := 0, locals := 68 }
set_option maxHeartbeats 4000000 in
set_option maxRecDepth 100000 in
theorem c_X5_count (l : Launch) (D : va_G) (cT : Nat → ClassId) (g : Nat → Nat) (b : Nat) (fu : Nat) (u_mo : TM) (p0 : Int32) (o : Int32 × TM) (hf : f_X5_count fu u_mo p0 = some o) (sz : Nat) : Met l yX5_count wsX5_count rm_X5_count (va_Pc [.ref (g b), .int p0] (PRE D cT sz (List.flatten [wM cT g b u_mo]))) (QI D o.1 (List.flatten [wM cT g b o.2]) (va_A (List.flatten [wM cT g b u_mo]) sz)) 0 0 (va_A (List.flatten [wM cT g b u_mo]) sz) := by
  refine Met.ofW (cc := cX5_count) (maxL := 2) (ret := (some .int)) (by decide) rfl ?_
  intro p e s m args below meth c s₁ B0 hml hv
  obtain ⟨hav, hsz, hP, hK, hD, hN, hZ⟩ := hv
  have hx := B0.exec
  have hb := B0.bytes
  have hr := B0.returns
  have hts := atoms_spec (ws := wsX5_count) B0.pre
  have hown : s.vm.findClass RX5 = some m.cls := findClass_of_methodNamed B0.named
  have hlocks := B0.notSynchronized
  subst hsz
  have hD := hD.self (sz := s.heap.size)
  have hA : ∀ q : Nat, s.heap.size ≤ q → va_A (List.flatten [wM cT g b u_mo]) s.heap.size q := fun q h => Or.inr h
  generalize va_A (List.flatten [wM cT g b u_mo]) s.heap.size = A at hD hZ hA ⊢
  have hS : va_S A s.heap s.heap [] := va_S.rf
  have hl := lv_entry ([.ref (g b), .int p0]) (n := 2) (Nat.le_of_ble_eq_true rfl)
  rw [hav]
  rw [lg_entry_eq]
  generalize (lg_sl ([.ref (g b), .int p0]) ++ List.replicate (2 - (lg_sl ([.ref (g b), .int p0])).length) Slot.unset).toArray = ls at hl ⊢
  have hl : lv_has ls 2 [(0, .ref (g b)), (1, .int p0)] := hl
  rw [← hav]
  generalize hQ : MQ below _ _ _ _ _ _ = Q
  show W p l e rm_X5_count s m args below meth c s.heap [] 0 0 Q (F0 m 0 ls [])
  unfold f_X5_count at hf
  refine lv_aload_n hx hb dX5_count_0 rfl (lv_at hl 0 rfl) ?_
  obtain ⟨o18, ho18, hf⟩ := bd_i hf
  refine cl_v [0] [] [wM cT g b o18] hP (va_D_adr hD rfl) hA hS (va_runV (As := []) (rest := []) ⟨hx, hb, hml, hown, hts⟩ (c_X5_laysRail l D cT g b fu u_mo  o18 ho18 _) (cwV 0 hts gX5_count_X5_laysRail rfl rfl rfl (by decide +kernel) ⟨Nat.le_of_ble_eq_true rfl, Nat.le_of_ble_eq_true rfl⟩) ⟨PRE_blind, va_recv hK hP (ci := 5) (q0 := 0) rfl rfl, PRE_ok [0] (by decide) hP (va_D_adr hD rfl) hA hS hK hN hZ⟩ rfl rfl hl.1 rfl (lv_room (Nat.le_of_ble_eq_true rfl)) dX5_count_1 ⟨Nat.le_of_ble_eq_true rfl, Nat.le_of_ble_eq_true rfl⟩) rfl 1 rfl (by decide) (by decide) (fun H locs hP hS => ?_)
  refine lv_iload_n hx hb dX5_count_4 rfl (lv_at hl 1 rfl) ?_
  by_cases c19 : p0 = (9 : Int32)
  · replace hf := it_t hf c19
    refine lv_tableIn (off := 39) (tgt := 44) hx hb dX5_count_5 (by rw [c19]; decide) (by rw [c19]; decide) (by rw [c19]; rfl) (by decide) ?_
    refine lv_aload_n hx hb dX5_count_44 rfl (lv_at hl 0 rfl) ?_
    refine va_get (ci := 5) (v := .ref (g (b + 1))) (C := RX5) (T := TX5) (N := 12) hx hb hts iw_X5_count_X5 hown hK hP 0 rfl rfl 0 (by decide) (hts (.fieldLink RX5 7 "BallastTrackModel" "s" "[I") (List.mem_of_getElem? (i := 1) rfl)) (fun _ h9 => h9) rfl dX5_count_45 ?_
    refine lv_bipush (v := 16) hx hb dX5_count_48 (by decide) ?_
    refine va_iald hx hb hK hP 1 0 rfl rfl (by unfold vp_in; decide) dX5_count_50 ?_
    refine lv_topi (fun x20 ex20 => ?_)
    replace hf := nm_i hf ex20
    obtain rfl := Option.some.inj hf
    subst hQ
    exact en_i hx hb hr hP hS hlocks dX5_count_51
  replace hf := it_f hf c19
  by_cases c21 : p0 = (10 : Int32)
  · replace hf := it_t hf c21
    refine lv_tableIn (off := 47) (tgt := 52) hx hb dX5_count_5 (by rw [c21]; decide) (by rw [c21]; decide) (by rw [c21]; rfl) (by decide) ?_
    refine lv_aload_n hx hb dX5_count_52 rfl (lv_at hl 0 rfl) ?_
    obtain ⟨o22, ho22, hf⟩ := bd_i hf
    refine cl_i [0] [] [wM cT g b o18] hP (va_D_adr hD rfl) hA hS (va_runV (As := []) (rest := []) ⟨hx, hb, hml, hown, hts⟩ (c_X5_hanging l D cT g b fu o18  o22 ho22 _) (cwV 0 hts gX5_count_X5_hanging rfl rfl rfl (by decide +kernel) ⟨Nat.le_of_ble_eq_true rfl, Nat.le_of_ble_eq_true rfl⟩) ⟨PRE_blind, va_recv hK hP (ci := 5) (q0 := 0) rfl rfl, PRE_ok [0] (by decide) hP (va_D_adr hD rfl) hA hS hK hN hZ⟩ rfl rfl hl.1 rfl (lv_room (Nat.le_of_ble_eq_true rfl)) dX5_count_53 ⟨Nat.le_of_ble_eq_true rfl, Nat.le_of_ble_eq_true rfl⟩) rfl 1 rfl (by decide) (by decide) (fun H locs hP hS => ?_)
    obtain rfl := Option.some.inj hf
    subst hQ
    exact en_i hx hb hr hP hS hlocks dX5_count_56
  replace hf := it_f hf c21
  by_cases c23 : p0 = (11 : Int32)
  · replace hf := it_t hf c23
    refine lv_tableIn (off := 52) (tgt := 57) hx hb dX5_count_5 (by rw [c23]; decide) (by rw [c23]; decide) (by rw [c23]; rfl) (by decide) ?_
    refine lv_aload_n hx hb dX5_count_57 rfl (lv_at hl 0 rfl) ?_
    obtain ⟨o24, ho24, hf⟩ := bd_i hf
    refine cl_i [0] [] [wM cT g b o18] hP (va_D_adr hD rfl) hA hS (va_runV (As := []) (rest := []) ⟨hx, hb, hml, hown, hts⟩ (c_X5_order l D cT g b fu o18  o24 ho24 _) (cwV 0 hts gX5_count_X5_order rfl rfl rfl (by decide +kernel) ⟨Nat.le_of_ble_eq_true rfl, Nat.le_of_ble_eq_true rfl⟩) ⟨PRE_blind, va_recv hK hP (ci := 5) (q0 := 0) rfl rfl, PRE_ok [0] (by decide) hP (va_D_adr hD rfl) hA hS hK hN hZ⟩ rfl rfl hl.1 rfl (lv_room (Nat.le_of_ble_eq_true rfl)) dX5_count_58 ⟨Nat.le_of_ble_eq_true rfl, Nat.le_of_ble_eq_true rfl⟩) rfl 1 rfl (by decide) (by decide) (fun H locs hP hS => ?_)
    obtain rfl := Option.some.inj hf
    subst hQ
    exact en_i hx hb hr hP hS hlocks dX5_count_61
  replace hf := it_f hf c23
  by_cases c25 : p0 = (12 : Int32)
  · replace hf := it_t hf c25
    refine lv_tableIn (off := 57) (tgt := 62) hx hb dX5_count_5 (by rw [c25]; decide) (by rw [c25]; decide) (by rw [c25]; rfl) (by decide) ?_
    refine lv_aload_n hx hb dX5_count_62 rfl (lv_at hl 0 rfl) ?_
    refine va_get (ci := 5) (v := .int (M_ty o18)) (C := RX5) (T := TX5) (N := 12) hx hb hts iw_X5_count_X5 hown hK hP 0 rfl rfl 7 (by decide) (hts (.fieldLink RX5 83 "BallastTrackModel" "typed" "I") (List.mem_of_getElem? (i := 2) rfl)) (fun _ h9 => h9) rfl dX5_count_63 ?_
    refine lv_topi (fun x26 ex26 => ?_)
    replace hf := nm_i hf ex26
    obtain rfl := Option.some.inj hf
    subst hQ
    exact en_i hx hb hr hP hS hlocks dX5_count_66
  replace hf := it_f hf c25
  by_cases c27 : p0 = (13 : Int32)
  · replace hf := it_t hf c27
    refine lv_tableIn (off := 62) (tgt := 67) hx hb dX5_count_5 (by rw [c27]; decide) (by rw [c27]; decide) (by rw [c27]; rfl) (by decide) ?_
    refine lv_aload_n hx hb dX5_count_67 rfl (lv_at hl 0 rfl) ?_
    refine va_get (ci := 5) (v := .int (M_ps o18)) (C := RX5) (T := TX5) (N := 12) hx hb hts iw_X5_count_X5 hown hK hP 0 rfl rfl 2 (by decide) (hts (.fieldLink RX5 32 "BallastTrackModel" "pasts" "I") (List.mem_of_getElem? (i := 3) rfl)) (fun _ h9 => h9) rfl dX5_count_68 ?_
    refine lv_topi (fun x28 ex28 => ?_)
    replace hf := nm_i hf ex28
    obtain rfl := Option.some.inj hf
    subst hQ
    exact en_i hx hb hr hP hS hlocks dX5_count_71
  replace hf := it_f hf c27
  by_cases c29 : p0 = (14 : Int32)
  · replace hf := it_t hf c29
    refine lv_tableIn (off := 67) (tgt := 72) hx hb dX5_count_5 (by rw [c29]; decide) (by rw [c29]; decide) (by rw [c29]; rfl) (by decide) ?_
    refine lv_aload_n hx hb dX5_count_72 rfl (lv_at hl 0 rfl) ?_
    refine va_get (ci := 5) (v := .int (M_kp o18)) (C := RX5) (T := TX5) (N := 12) hx hb hts iw_X5_count_X5 hown hK hP 0 rfl rfl 4 (by decide) (hts (.fieldLink RX5 159 "BallastTrackModel" "kept" "I") (List.mem_of_getElem? (i := 4) rfl)) (fun _ h9 => h9) rfl dX5_count_73 ?_
    refine lv_topi (fun x30 ex30 => ?_)
    replace hf := nm_i hf ex30
    obtain rfl := Option.some.inj hf
    subst hQ
    exact en_i hx hb hr hP hS hlocks dX5_count_76
  replace hf := it_f hf c29
  refine lv_tableOut (tgt := 77) hx hb dX5_count_5 (sw_out (fun k h1 h2 => by
    rcases (show k = 9 ∨ k = 10 ∨ k = 11 ∨ k = 12 ∨ k = 13 ∨ k = 14 by omega) with rfl | rfl | rfl | rfl | rfl | rfl
    · exact c19
    · exact c21
    · exact c23
    · exact c25
    · exact c27
    · exact c29)) (by decide) ?_
  refine lv_iload_n hx hb dX5_count_77 rfl (lv_at hl 1 rfl) ?_
  refine lv_iconst (v := 0) hx hb dX5_count_78 (by decide) ?_
  refine lv_bipush (v := 8) hx hb dX5_count_79 (by decide) ?_
  obtain ⟨o31, ho31, hf⟩ := bd_i hf
  refine cl_i [] [0] [wM cT g b o18] hP (va_D_adr hD rfl) hA hS (va_runS (As := [.int p0, .int ((0 : Int32)), .int ((8 : Int32))]) (rest := []) ⟨hx, hb, hml, hown, hts⟩ (c_X5_in l D cT g  fu  p0 ((0 : Int32)) ((8 : Int32)) o31 ho31 _) (va_cwS 3 hts gX5_count_X5_in rfl rfl rfl (by decide +kernel) ⟨Nat.le_of_ble_eq_true rfl, Nat.le_of_ble_eq_true rfl⟩) ⟨PRE_blind, PRE_ok [] (by decide) hP (va_D_adr hD rfl) hA hS hK hN hZ⟩ rfl rfl hl.1 rfl (lv_room (Nat.le_of_ble_eq_true rfl)) dX5_count_81 ⟨Nat.le_of_ble_eq_true rfl, Nat.le_of_ble_eq_true rfl⟩) rfl 1 rfl (by decide) (by decide) (fun H locs hP hS => ?_)
  refine lv_if_eq (tgt := 96) hx hb dX5_count_84 (by decide) (fun c32 => ?_) (fun c32 => ?_)
  · replace hf := it_t hf c32
    refine lv_ldc (v := -100001) hx hb hown (hts (.constant RX5 68 (-100001)) (List.mem_of_getElem? (i := 5) rfl)) dX5_count_96 ?_
    obtain rfl := Option.some.inj hf
    subst hQ
    exact en_i hx hb hr hP hS hlocks dX5_count_98
  · replace hf := it_f hf c32
    refine lv_aload_n hx hb dX5_count_87 rfl (lv_at hl 0 rfl) ?_
    refine va_get (ci := 5) (v := .ref (g (b + 1))) (C := RX5) (T := TX5) (N := 12) hx hb hts iw_X5_count_X5 hown hK hP 0 rfl rfl 0 (by decide) (hts (.fieldLink RX5 7 "BallastTrackModel" "s" "[I") (List.mem_of_getElem? (i := 1) rfl)) (fun _ h9 => h9) rfl dX5_count_88 ?_
    refine lv_iload_n hx hb dX5_count_91 rfl (lv_at hl 1 rfl) ?_
    obtain ⟨hi33, hf⟩ := ix_i hf
    refine va_iald hx hb hK hP 1 0 rfl rfl hi33 dX5_count_92 ?_
    refine lv_topi (fun x34 ex34 => ?_)
    replace hf := nm_i hf ex34
    refine lv_goto (tgt := 98) hx hb dX5_count_93 (by decide) ?_
    obtain rfl := Option.some.inj hf
    subst hQ
    exact en_i hx hb hr hP hS hlocks dX5_count_98
theorem iw_X5_sleeper_X5 : ∀ w ∈ u_ws RX5 TX5 12, w ∈ wsX5_sleeper := by decide +kernel
def f_X5_sleeper (fu : Nat) (u_mo : TM) (p0 : Int32) (p1 : Int32) : Option (Int32 × TM) :=
bd (f_X5_isSleeper fu u_mo p0) fun (o37 : Bool) =>
if bI o37 = 0 then (
some ((-100001 : Int32), u_mo)
)
else (
bd (f_X5_in fu  p1 ((0 : Int32)) ((9 : Int32))) fun (o39 : Bool) =>
if ¬ bI o39 = 0 then (
bd (f_X5_laysRail fu u_mo ) fun (o41 : TM) =>
if p1 = (0 : Int32) then (
nm ((41 : Int32) + p0) fun (x43 : Int32) =>
ix x43 281 <|
nm ((M_ss o41) x43.toNatClampNeg) fun (x45 : Int32) =>
some (x45, o41)
)
else if p1 = (1 : Int32) then (
nm ((101 : Int32) + p0) fun (x47 : Int32) =>
ix x47 281 <|
nm ((M_ss o41) x47.toNatClampNeg) fun (x49 : Int32) =>
some (x49, o41)
)
else if p1 = (2 : Int32) then (
ix p0 60 <|
nm ((M_ra o41) p0.toNatClampNeg) fun (x52 : Int32) =>
some (x52, o41)
)
else if p1 = (3 : Int32) then (
bd (f_X5_voidAt fu o41 p0) fun (o54 : Int32) =>
some (o54, o41)
)
else if p1 = (4 : Int32) then (
bd (f_X5_hangs fu o41 p0) fun (o56 : Bool) =>
if bI o56 = 0 then (
some ((0 : Int32), o41)
)
else (
some ((1 : Int32), o41)
)
)
else if p1 = (5 : Int32) then (
bd (f_X5_laysLoads fu o41 ) fun (o59 : TM) =>
ix p0 60 <|
nm ((M_lo o59) p0.toNatClampNeg) fun (x61 : Int32) =>
some (x61, o59)
)
else if p1 = (6 : Int32) then (
bd (f_X5_defect fu o41 p0) fun (o63 : Int32) =>
some (o63, o41)
)
else if p1 = (7 : Int32) then (
bd (f_X5_orderAt fu o41 p0) fun (o65 : Int32) =>
some (o65, o41)
)
else if p1 = (8 : Int32) then (
nm ((161 : Int32) + p0) fun (x67 : Int32) =>
ix x67 281 <|
nm ((M_ss o41) x67.toNatClampNeg) fun (x69 : Int32) =>
some (x69, o41)
)
else (
nm ((221 : Int32) + p0) fun (x70 : Int32) =>
ix x70 281 <|
nm ((M_ss o41) x70.toNatClampNeg) fun (x72 : Int32) =>
some (x72, o41)
)
)
else (
some ((-100001 : Int32), u_mo)
)
)

abbrev rm_X5_sleeper : Room := { frames := 4, cells := 0, slots := 0, locals := 89 }
set_option maxHeartbeats 4000000 in
set_option maxRecDepth 100000 in
theorem c_X5_sleeper (l : Launch) (D : va_G) (cT : Nat → ClassId) (g : Nat → Nat) (b : Nat) (fu : Nat) (u_mo : TM) (p0 : Int32) (p1 : Int32) (o : Int32 × TM) (hf : f_X5_sleeper fu u_mo p0 p1 = some o) (sz : Nat) : Met l yX5_sleeper wsX5_sleeper rm_X5_sleeper (va_Pc [.ref (g b), .int p0, .int p1] (PRE D cT sz (List.flatten [wM cT g b u_mo]))) (QI D o.1 (List.flatten [wM cT g b o.2]) (va_A (List.flatten [wM cT g b u_mo]) sz)) 0 0 (va_A (List.flatten [wM cT g b u_mo]) sz) := by
  refine Met.ofW (cc := cX5_sleeper) (maxL := 3) (ret := (some .int)) (by decide) rfl ?_
  intro p e s m args below meth c s₁ B0 hml hv
  obtain ⟨hav, hsz, hP, hK, hD, hN, hZ⟩ := hv
  have hx := B0.exec
  have hb := B0.bytes
  have hr := B0.returns
  have hts := atoms_spec (ws := wsX5_sleeper) B0.pre
  have hown : s.vm.findClass RX5 = some m.cls := findClass_of_methodNamed B0.named
  have hlocks := B0.notSynchronized
  subst hsz
  have hD := hD.self (sz := s.heap.size)
  have hA : ∀ q : Nat, s.heap.size ≤ q → va_A (List.flatten [wM cT g b u_mo]) s.heap.size q := fun q h => Or.inr h
  generalize va_A (List.flatten [wM cT g b u_mo]) s.heap.size = A at hD hZ hA ⊢
  have hS : va_S A s.heap s.heap [] := va_S.rf
  have hl := lv_entry ([.ref (g b), .int p0, .int p1]) (n := 3) (Nat.le_of_ble_eq_true rfl)
  rw [hav]
  rw [lg_entry_eq]
  generalize (lg_sl ([.ref (g b), .int p0, .int p1]) ++ List.replicate (3 - (lg_sl ([.ref (g b), .int p0, .int p1])).length) Slot.unset).toArray = ls at hl ⊢
  have hl : lv_has ls 3 [(0, .ref (g b)), (1, .int p0), (2, .int p1)] := hl
  rw [← hav]
  generalize hQ : MQ below _ _ _ _ _ _ = Q
  show W p l e rm_X5_sleeper s m args below meth c s.heap [] 0 0 Q (F0 m 0 ls [])
  unfold f_X5_sleeper at hf
  refine lv_aload_n hx hb dX5_sleeper_0 rfl (lv_at hl 0 rfl) ?_
  refine lv_iload_n hx hb dX5_sleeper_1 rfl (lv_at hl 1 rfl) ?_
  obtain ⟨o37, ho37, hf⟩ := bd_i hf
  refine cl_i [0] [] [wM cT g b u_mo] hP (va_D_adr hD rfl) hA hS (va_runV (As := [.int p0]) (rest := []) ⟨hx, hb, hml, hown, hts⟩ (c_X5_isSleeper l D cT g b fu u_mo p0 o37 ho37 _) (cwV 1 hts gX5_sleeper_X5_isSleeper rfl rfl rfl (by decide +kernel) ⟨Nat.le_of_ble_eq_true rfl, Nat.le_of_ble_eq_true rfl⟩) ⟨PRE_blind, va_recv hK hP (ci := 5) (q0 := 0) rfl rfl, PRE_ok [0] (by decide) hP (va_D_adr hD rfl) hA hS hK hN hZ⟩ rfl rfl hl.1 rfl (lv_room (Nat.le_of_ble_eq_true rfl)) dX5_sleeper_2 ⟨Nat.le_of_ble_eq_true rfl, Nat.le_of_ble_eq_true rfl⟩) rfl 1 rfl (by decide) (by decide) (fun H locs hP hS => ?_)
  refine lv_if_eq (tgt := 18) hx hb dX5_sleeper_5 (by decide) (fun c38 => ?_) (fun c38 => ?_)
  · replace hf := it_t hf c38
    refine lv_ldc (v := -100001) hx hb hown (hts (.constant RX5 68 (-100001)) (List.mem_of_getElem? (i := 1) rfl)) dX5_sleeper_18 ?_
    obtain rfl := Option.some.inj hf
    subst hQ
    exact en_i hx hb hr hP hS hlocks dX5_sleeper_20
  · replace hf := it_f hf c38
    refine lv_iload_n hx hb dX5_sleeper_8 rfl (lv_at hl 2 rfl) ?_
    refine lv_iconst (v := 0) hx hb dX5_sleeper_9 (by decide) ?_
    refine lv_bipush (v := 9) hx hb dX5_sleeper_10 (by decide) ?_
    obtain ⟨o39, ho39, hf⟩ := bd_i hf
    refine cl_i [] [0] [wM cT g b u_mo] hP (va_D_adr hD rfl) hA hS (va_runS (As := [.int p1, .int ((0 : Int32)), .int ((9 : Int32))]) (rest := []) ⟨hx, hb, hml, hown, hts⟩ (c_X5_in l D cT g  fu  p1 ((0 : Int32)) ((9 : Int32)) o39 ho39 _) (va_cwS 3 hts gX5_sleeper_X5_in rfl rfl rfl (by decide +kernel) ⟨Nat.le_of_ble_eq_true rfl, Nat.le_of_ble_eq_true rfl⟩) ⟨PRE_blind, PRE_ok [] (by decide) hP (va_D_adr hD rfl) hA hS hK hN hZ⟩ rfl rfl hl.1 rfl (lv_room (Nat.le_of_ble_eq_true rfl)) dX5_sleeper_12 ⟨Nat.le_of_ble_eq_true rfl, Nat.le_of_ble_eq_true rfl⟩) rfl 1 rfl (by decide) (by decide) (fun H locs hP hS => ?_)
    refine lv_if_ne (tgt := 21) hx hb dX5_sleeper_15 (by decide) (fun c40 => ?_) (fun c40 => ?_)
    · replace hf := it_t hf c40
      refine lv_aload_n hx hb dX5_sleeper_21 rfl (lv_at hl 0 rfl) ?_
      obtain ⟨o41, ho41, hf⟩ := bd_i hf
      refine cl_v [0] [] [wM cT g b o41] hP (va_D_adr hD rfl) hA hS (va_runV (As := []) (rest := []) ⟨hx, hb, hml, hown, hts⟩ (c_X5_laysRail l D cT g b fu u_mo  o41 ho41 _) (cwV 0 hts gX5_sleeper_X5_laysRail rfl rfl rfl (by decide +kernel) ⟨Nat.le_of_ble_eq_true rfl, Nat.le_of_ble_eq_true rfl⟩) ⟨PRE_blind, va_recv hK hP (ci := 5) (q0 := 0) rfl rfl, PRE_ok [0] (by decide) hP (va_D_adr hD rfl) hA hS hK hN hZ⟩ rfl rfl hl.1 rfl (lv_room (Nat.le_of_ble_eq_true rfl)) dX5_sleeper_22 ⟨Nat.le_of_ble_eq_true rfl, Nat.le_of_ble_eq_true rfl⟩) rfl 1 rfl (by decide) (by decide) (fun H locs hP hS => ?_)
      refine lv_iload_n hx hb dX5_sleeper_25 rfl (lv_at hl 2 rfl) ?_
      by_cases c42 : p1 = (0 : Int32)
      · replace hf := it_t hf c42
        refine lv_tableIn (off := 50) (tgt := 76) hx hb dX5_sleeper_26 (by rw [c42]; decide) (by rw [c42]; decide) (by rw [c42]; rfl) (by decide) ?_
        refine lv_aload_n hx hb dX5_sleeper_76 rfl (lv_at hl 0 rfl) ?_
        refine va_get (ci := 5) (v := .ref (g (b + 1))) (C := RX5) (T := TX5) (N := 12) hx hb hts iw_X5_sleeper_X5 hown hK hP 0 rfl rfl 0 (by decide) (hts (.fieldLink RX5 7 "BallastTrackModel" "s" "[I") (List.mem_of_getElem? (i := 2) rfl)) (fun _ h9 => h9) rfl dX5_sleeper_77 ?_
        refine lv_bipush (v := 41) hx hb dX5_sleeper_80 (by decide) ?_
        refine lv_iload_n hx hb dX5_sleeper_82 rfl (lv_at hl 1 rfl) ?_
        refine lv_iadd hx hb dX5_sleeper_83 ?_
        refine lv_topi (fun x43 ex43 => ?_)
        replace hf := nm_i hf ex43
        obtain ⟨hi44, hf⟩ := ix_i hf
        refine va_iald hx hb hK hP 1 0 rfl rfl hi44 dX5_sleeper_84 ?_
        refine lv_topi (fun x45 ex45 => ?_)
        replace hf := nm_i hf ex45
        obtain rfl := Option.some.inj hf
        subst hQ
        exact en_i hx hb hr hP hS hlocks dX5_sleeper_85
      replace hf := it_f hf c42
      by_cases c46 : p1 = (1 : Int32)
      · replace hf := it_t hf c46
        refine lv_tableIn (off := 60) (tgt := 86) hx hb dX5_sleeper_26 (by rw [c46]; decide) (by rw [c46]; decide) (by rw [c46]; rfl) (by decide) ?_
        refine lv_aload_n hx hb dX5_sleeper_86 rfl (lv_at hl 0 rfl) ?_
        refine va_get (ci := 5) (v := .ref (g (b + 1))) (C := RX5) (T := TX5) (N := 12) hx hb hts iw_X5_sleeper_X5 hown hK hP 0 rfl rfl 0 (by decide) (hts (.fieldLink RX5 7 "BallastTrackModel" "s" "[I") (List.mem_of_getElem? (i := 2) rfl)) (fun _ h9 => h9) rfl dX5_sleeper_87 ?_
        refine lv_bipush (v := 101) hx hb dX5_sleeper_90 (by decide) ?_
        refine lv_iload_n hx hb dX5_sleeper_92 rfl (lv_at hl 1 rfl) ?_
        refine lv_iadd hx hb dX5_sleeper_93 ?_
        refine lv_topi (fun x47 ex47 => ?_)
        replace hf := nm_i hf ex47
        obtain ⟨hi48, hf⟩ := ix_i hf
        refine va_iald hx hb hK hP 1 0 rfl rfl hi48 dX5_sleeper_94 ?_
        refine lv_topi (fun x49 ex49 => ?_)
        replace hf := nm_i hf ex49
        obtain rfl := Option.some.inj hf
        subst hQ
        exact en_i hx hb hr hP hS hlocks dX5_sleeper_95
      replace hf := it_f hf c46
      by_cases c50 : p1 = (2 : Int32)
      · replace hf := it_t hf c50
        refine lv_tableIn (off := 70) (tgt := 96) hx hb dX5_sleeper_26 (by rw [c50]; decide) (by rw [c50]; decide) (by rw [c50]; rfl) (by decide) ?_
        refine lv_aload_n hx hb dX5_sleeper_96 rfl (lv_at hl 0 rfl) ?_
        refine va_get (ci := 5) (v := .ref (g (b + 6))) (C := RX5) (T := TX5) (N := 12) hx hb hts iw_X5_sleeper_X5 hown hK hP 0 rfl rfl 8 (by decide) (hts (.fieldLink RX5 26 "BallastTrackModel" "rail" "[I") (List.mem_of_getElem? (i := 3) rfl)) (fun _ h9 => h9) rfl dX5_sleeper_97 ?_
        refine lv_iload_n hx hb dX5_sleeper_100 rfl (lv_at hl 1 rfl) ?_
        obtain ⟨hi51, hf⟩ := ix_i hf
        refine va_iald hx hb hK hP 6 0 rfl rfl hi51 dX5_sleeper_101 ?_
        refine lv_topi (fun x52 ex52 => ?_)
        replace hf := nm_i hf ex52
        obtain rfl := Option.some.inj hf
        subst hQ
        exact en_i hx hb hr hP hS hlocks dX5_sleeper_102
      replace hf := it_f hf c50
      by_cases c53 : p1 = (3 : Int32)
      · replace hf := it_t hf c53
        refine lv_tableIn (off := 77) (tgt := 103) hx hb dX5_sleeper_26 (by rw [c53]; decide) (by rw [c53]; decide) (by rw [c53]; rfl) (by decide) ?_
        refine lv_aload_n hx hb dX5_sleeper_103 rfl (lv_at hl 0 rfl) ?_
        refine lv_iload_n hx hb dX5_sleeper_104 rfl (lv_at hl 1 rfl) ?_
        obtain ⟨o54, ho54, hf⟩ := bd_i hf
        refine cl_i [0] [] [wM cT g b o41] hP (va_D_adr hD rfl) hA hS (va_runV (As := [.int p0]) (rest := []) ⟨hx, hb, hml, hown, hts⟩ (c_X5_voidAt l D cT g b fu o41 p0 o54 ho54 _) (cwV 1 hts gX5_sleeper_X5_voidAt rfl rfl rfl (by decide +kernel) ⟨Nat.le_of_ble_eq_true rfl, Nat.le_of_ble_eq_true rfl⟩) ⟨PRE_blind, va_recv hK hP (ci := 5) (q0 := 0) rfl rfl, PRE_ok [0] (by decide) hP (va_D_adr hD rfl) hA hS hK hN hZ⟩ rfl rfl hl.1 rfl (lv_room (Nat.le_of_ble_eq_true rfl)) dX5_sleeper_105 ⟨Nat.le_of_ble_eq_true rfl, Nat.le_of_ble_eq_true rfl⟩) rfl 1 rfl (by decide) (by decide) (fun H locs hP hS => ?_)
        obtain rfl := Option.some.inj hf
        subst hQ
        exact en_i hx hb hr hP hS hlocks dX5_sleeper_108
      replace hf := it_f hf c53
      by_cases c55 : p1 = (4 : Int32)
      · replace hf := it_t hf c55
        refine lv_tableIn (off := 83) (tgt := 109) hx hb dX5_sleeper_26 (by rw [c55]; decide) (by rw [c55]; decide) (by rw [c55]; rfl) (by decide) ?_
        refine lv_aload_n hx hb dX5_sleeper_109 rfl (lv_at hl 0 rfl) ?_
        refine lv_iload_n hx hb dX5_sleeper_110 rfl (lv_at hl 1 rfl) ?_
        obtain ⟨o56, ho56, hf⟩ := bd_i hf
        refine cl_i [0] [] [wM cT g b o41] hP (va_D_adr hD rfl) hA hS (va_runV (As := [.int p0]) (rest := []) ⟨hx, hb, hml, hown, hts⟩ (c_X5_hangs l D cT g b fu o41 p0 o56 ho56 _) (cwV 1 hts gX5_sleeper_X5_hangs rfl rfl rfl (by decide +kernel) ⟨Nat.le_of_ble_eq_true rfl, Nat.le_of_ble_eq_true rfl⟩) ⟨PRE_blind, va_recv hK hP (ci := 5) (q0 := 0) rfl rfl, PRE_ok [0] (by decide) hP (va_D_adr hD rfl) hA hS hK hN hZ⟩ rfl rfl hl.1 rfl (lv_room (Nat.le_of_ble_eq_true rfl)) dX5_sleeper_111 ⟨Nat.le_of_ble_eq_true rfl, Nat.le_of_ble_eq_true rfl⟩) rfl 1 rfl (by decide) (by decide) (fun H locs hP hS => ?_)
        refine lv_if_eq (tgt := 121) hx hb dX5_sleeper_114 (by decide) (fun c57 => ?_) (fun c57 => ?_)
        · replace hf := it_t hf c57
          refine lv_iconst (v := 0) hx hb dX5_sleeper_121 (by decide) ?_
          obtain rfl := Option.some.inj hf
          subst hQ
          exact en_i hx hb hr hP hS hlocks dX5_sleeper_122
        · replace hf := it_f hf c57
          refine lv_iconst (v := 1) hx hb dX5_sleeper_117 (by decide) ?_
          refine lv_goto (tgt := 122) hx hb dX5_sleeper_118 (by decide) ?_
          obtain rfl := Option.some.inj hf
          subst hQ
          exact en_i hx hb hr hP hS hlocks dX5_sleeper_122
      replace hf := it_f hf c55
      by_cases c58 : p1 = (5 : Int32)
      · replace hf := it_t hf c58
        refine lv_tableIn (off := 97) (tgt := 123) hx hb dX5_sleeper_26 (by rw [c58]; decide) (by rw [c58]; decide) (by rw [c58]; rfl) (by decide) ?_
        refine lv_aload_n hx hb dX5_sleeper_123 rfl (lv_at hl 0 rfl) ?_
        obtain ⟨o59, ho59, hf⟩ := bd_i hf
        refine cl_v [0] [] [wM cT g b o59] hP (va_D_adr hD rfl) hA hS (va_runV (As := []) (rest := []) ⟨hx, hb, hml, hown, hts⟩ (c_X5_laysLoads l D cT g b fu o41  o59 ho59 _) (cwV 0 hts gX5_sleeper_X5_laysLoads rfl rfl rfl (by decide +kernel) ⟨Nat.le_of_ble_eq_true rfl, Nat.le_of_ble_eq_true rfl⟩) ⟨PRE_blind, va_recv hK hP (ci := 5) (q0 := 0) rfl rfl, PRE_ok [0] (by decide) hP (va_D_adr hD rfl) hA hS hK hN hZ⟩ rfl rfl hl.1 rfl (lv_room (Nat.le_of_ble_eq_true rfl)) dX5_sleeper_124 ⟨Nat.le_of_ble_eq_true rfl, Nat.le_of_ble_eq_true rfl⟩) rfl 1 rfl (by decide) (by decide) (fun H locs hP hS => ?_)
        refine lv_aload_n hx hb dX5_sleeper_127 rfl (lv_at hl 0 rfl) ?_
        refine va_get (ci := 5) (v := .ref (g (b + 7))) (C := RX5) (T := TX5) (N := 12) hx hb hts iw_X5_sleeper_X5 hown hK hP 0 rfl rfl 9 (by decide) (hts (.fieldLink RX5 29 "BallastTrackModel" "load" "[I") (List.mem_of_getElem? (i := 4) rfl)) (fun _ h9 => h9) rfl dX5_sleeper_128 ?_
        refine lv_iload_n hx hb dX5_sleeper_131 rfl (lv_at hl 1 rfl) ?_
        obtain ⟨hi60, hf⟩ := ix_i hf
        refine va_iald hx hb hK hP 7 0 rfl rfl hi60 dX5_sleeper_132 ?_
        refine lv_topi (fun x61 ex61 => ?_)
        replace hf := nm_i hf ex61
        obtain rfl := Option.some.inj hf
        subst hQ
        exact en_i hx hb hr hP hS hlocks dX5_sleeper_133
      replace hf := it_f hf c58
      by_cases c62 : p1 = (6 : Int32)
      · replace hf := it_t hf c62
        refine lv_tableIn (off := 108) (tgt := 134) hx hb dX5_sleeper_26 (by rw [c62]; decide) (by rw [c62]; decide) (by rw [c62]; rfl) (by decide) ?_
        refine lv_aload_n hx hb dX5_sleeper_134 rfl (lv_at hl 0 rfl) ?_
        refine lv_iload_n hx hb dX5_sleeper_135 rfl (lv_at hl 1 rfl) ?_
        obtain ⟨o63, ho63, hf⟩ := bd_i hf
        refine cl_i [0] [] [wM cT g b o41] hP (va_D_adr hD rfl) hA hS (va_runV (As := [.int p0]) (rest := []) ⟨hx, hb, hml, hown, hts⟩ (c_X5_defect l D cT g b fu o41 p0 o63 ho63 _) (cwV 1 hts gX5_sleeper_X5_defect rfl rfl rfl (by decide +kernel) ⟨Nat.le_of_ble_eq_true rfl, Nat.le_of_ble_eq_true rfl⟩) ⟨PRE_blind, va_recv hK hP (ci := 5) (q0 := 0) rfl rfl, PRE_ok [0] (by decide) hP (va_D_adr hD rfl) hA hS hK hN hZ⟩ rfl rfl hl.1 rfl (lv_room (Nat.le_of_ble_eq_true rfl)) dX5_sleeper_136 ⟨Nat.le_of_ble_eq_true rfl, Nat.le_of_ble_eq_true rfl⟩) rfl 1 rfl (by decide) (by decide) (fun H locs hP hS => ?_)
        obtain rfl := Option.some.inj hf
        subst hQ
        exact en_i hx hb hr hP hS hlocks dX5_sleeper_139
      replace hf := it_f hf c62
      by_cases c64 : p1 = (7 : Int32)
      · replace hf := it_t hf c64
        refine lv_tableIn (off := 114) (tgt := 140) hx hb dX5_sleeper_26 (by rw [c64]; decide) (by rw [c64]; decide) (by rw [c64]; rfl) (by decide) ?_
        refine lv_aload_n hx hb dX5_sleeper_140 rfl (lv_at hl 0 rfl) ?_
        refine lv_iload_n hx hb dX5_sleeper_141 rfl (lv_at hl 1 rfl) ?_
        obtain ⟨o65, ho65, hf⟩ := bd_i hf
        refine cl_i [0] [] [wM cT g b o41] hP (va_D_adr hD rfl) hA hS (va_runV (As := [.int p0]) (rest := []) ⟨hx, hb, hml, hown, hts⟩ (c_X5_orderAt l D cT g b fu o41 p0 o65 ho65 _) (cwV 1 hts gX5_sleeper_X5_orderAt rfl rfl rfl (by decide +kernel) ⟨Nat.le_of_ble_eq_true rfl, Nat.le_of_ble_eq_true rfl⟩) ⟨PRE_blind, va_recv hK hP (ci := 5) (q0 := 0) rfl rfl, PRE_ok [0] (by decide) hP (va_D_adr hD rfl) hA hS hK hN hZ⟩ rfl rfl hl.1 rfl (lv_room (Nat.le_of_ble_eq_true rfl)) dX5_sleeper_142 ⟨Nat.le_of_ble_eq_true rfl, Nat.le_of_ble_eq_true rfl⟩) rfl 1 rfl (by decide) (by decide) (fun H locs hP hS => ?_)
        obtain rfl := Option.some.inj hf
        subst hQ
        exact en_i hx hb hr hP hS hlocks dX5_sleeper_145
      replace hf := it_f hf c64
      by_cases c66 : p1 = (8 : Int32)
      · replace hf := it_t hf c66
        refine lv_tableIn (off := 120) (tgt := 146) hx hb dX5_sleeper_26 (by rw [c66]; decide) (by rw [c66]; decide) (by rw [c66]; rfl) (by decide) ?_
        refine lv_aload_n hx hb dX5_sleeper_146 rfl (lv_at hl 0 rfl) ?_
        refine va_get (ci := 5) (v := .ref (g (b + 1))) (C := RX5) (T := TX5) (N := 12) hx hb hts iw_X5_sleeper_X5 hown hK hP 0 rfl rfl 0 (by decide) (hts (.fieldLink RX5 7 "BallastTrackModel" "s" "[I") (List.mem_of_getElem? (i := 2) rfl)) (fun _ h9 => h9) rfl dX5_sleeper_147 ?_
        refine lv_sipush (v := 161) hx hb dX5_sleeper_150 (by decide) ?_
        refine lv_iload_n hx hb dX5_sleeper_153 rfl (lv_at hl 1 rfl) ?_
        refine lv_iadd hx hb dX5_sleeper_154 ?_
        refine lv_topi (fun x67 ex67 => ?_)
        replace hf := nm_i hf ex67
        obtain ⟨hi68, hf⟩ := ix_i hf
        refine va_iald hx hb hK hP 1 0 rfl rfl hi68 dX5_sleeper_155 ?_
        refine lv_topi (fun x69 ex69 => ?_)
        replace hf := nm_i hf ex69
        obtain rfl := Option.some.inj hf
        subst hQ
        exact en_i hx hb hr hP hS hlocks dX5_sleeper_156
      replace hf := it_f hf c66
      refine lv_tableOut (tgt := 157) hx hb dX5_sleeper_26 (sw_out (fun k h1 h2 => by
        rcases (show k = 0 ∨ k = 1 ∨ k = 2 ∨ k = 3 ∨ k = 4 ∨ k = 5 ∨ k = 6 ∨ k = 7 ∨ k = 8 by omega) with rfl | rfl | rfl | rfl | rfl | rfl | rfl | rfl | rfl
        · exact c42
        · exact c46
        · exact c50
        · exact c53
        · exact c55
        · exact c58
        · exact c62
        · exact c64
        · exact c66)) (by decide) ?_
      refine lv_aload_n hx hb dX5_sleeper_157 rfl (lv_at hl 0 rfl) ?_
      refine va_get (ci := 5) (v := .ref (g (b + 1))) (C := RX5) (T := TX5) (N := 12) hx hb hts iw_X5_sleeper_X5 hown hK hP 0 rfl rfl 0 (by decide) (hts (.fieldLink RX5 7 "BallastTrackModel" "s" "[I") (List.mem_of_getElem? (i := 2) rfl)) (fun _ h9 => h9) rfl dX5_sleeper_158 ?_
      refine lv_sipush (v := 221) hx hb dX5_sleeper_161 (by decide) ?_
      refine lv_iload_n hx hb dX5_sleeper_164 rfl (lv_at hl 1 rfl) ?_
      refine lv_iadd hx hb dX5_sleeper_165 ?_
      refine lv_topi (fun x70 ex70 => ?_)
      replace hf := nm_i hf ex70
      obtain ⟨hi71, hf⟩ := ix_i hf
      refine va_iald hx hb hK hP 1 0 rfl rfl hi71 dX5_sleeper_166 ?_
      refine lv_topi (fun x72 ex72 => ?_)
      replace hf := nm_i hf ex72
      obtain rfl := Option.some.inj hf
      subst hQ
      exact en_i hx hb hr hP hS hlocks dX5_sleeper_167
    · replace hf := it_f hf (not_not_intro c40)
      refine lv_ldc (v := -100001) hx hb hown (hts (.constant RX5 68 (-100001)) (List.mem_of_getElem? (i := 1) rfl)) dX5_sleeper_18 ?_
      obtain rfl := Option.some.inj hf
      subst hQ
      exact en_i hx hb hr hP hS hlocks dX5_sleeper_20
theorem iw_X5_job_X5 : ∀ w ∈ u_ws RX5 TX5 12, w ∈ wsX5_job := by decide +kernel
def f_X5_job (fu : Nat) (u_mo : TM) (p0 : Int32) (p1 : Int32) : Option (Int32) :=
if p0 < 0 then (
some ((-100001 : Int32))
)
else (
bd (f_X5_in fu  p1 ((0 : Int32)) ((3 : Int32))) fun (o8 : Bool) =>
if ¬ bI o8 = 0 then (
nm (M_ss u_mo 16) fun (x10 : Int32) =>
if x10 ≤ p0 then (
some ((-100009 : Int32))
)
else (
bd (f_X5_jobOf fu u_mo p0 p1) fun (o12 : Int32) =>
some (o12)
)
)
else (
some ((-100001 : Int32))
)
)

abbrev rm_X5_job : Room := { frames := 1, cells := 0, slots := 0, locals := 22 }
set_option maxHeartbeats 4000000 in
set_option maxRecDepth 100000 in
theorem c_X5_job (l : Launch) (D : va_G) (cT : Nat → ClassId) (g : Nat → Nat) (b : Nat) (fu : Nat) (u_mo : TM) (p0 : Int32) (p1 : Int32) (o : Int32) (hf : f_X5_job fu u_mo p0 p1 = some o) (sz : Nat) : Met l yX5_job wsX5_job rm_X5_job (va_Pc [.ref (g b), .int p0, .int p1] (PRE D cT sz (List.flatten [wM cT g b u_mo]))) (QI D o (List.flatten [wM cT g b u_mo]) (va_A (List.flatten [wM cT g b u_mo]) sz)) 0 0 (va_A (List.flatten [wM cT g b u_mo]) sz) := by
  refine Met.ofW (cc := cX5_job) (maxL := 3) (ret := (some .int)) (by decide) rfl ?_
  intro p e s m args below meth c s₁ B0 hml hv
  obtain ⟨hav, hsz, hP, hK, hD, hN, hZ⟩ := hv
  have hx := B0.exec
  have hb := B0.bytes
  have hr := B0.returns
  have hts := atoms_spec (ws := wsX5_job) B0.pre
  have hown : s.vm.findClass RX5 = some m.cls := findClass_of_methodNamed B0.named
  have hlocks := B0.notSynchronized
  subst hsz
  have hD := hD.self (sz := s.heap.size)
  have hA : ∀ q : Nat, s.heap.size ≤ q → va_A (List.flatten [wM cT g b u_mo]) s.heap.size q := fun q h => Or.inr h
  generalize va_A (List.flatten [wM cT g b u_mo]) s.heap.size = A at hD hZ hA ⊢
  have hS : va_S A s.heap s.heap [] := va_S.rf
  have hl := lv_entry ([.ref (g b), .int p0, .int p1]) (n := 3) (Nat.le_of_ble_eq_true rfl)
  rw [hav]
  rw [lg_entry_eq]
  generalize (lg_sl ([.ref (g b), .int p0, .int p1]) ++ List.replicate (3 - (lg_sl ([.ref (g b), .int p0, .int p1])).length) Slot.unset).toArray = ls at hl ⊢
  have hl : lv_has ls 3 [(0, .ref (g b)), (1, .int p0), (2, .int p1)] := hl
  rw [← hav]
  generalize hQ : MQ below _ _ _ _ _ _ = Q
  show W p l e rm_X5_job s m args below meth c s.heap [] 0 0 Q (F0 m 0 ls [])
  unfold f_X5_job at hf
  refine lv_iload_n hx hb dX5_job_0 rfl (lv_at hl 1 rfl) ?_
  refine lv_if_lt (tgt := 13) hx hb dX5_job_1 (by decide) (fun c7 => ?_) (fun c7 => ?_)
  · replace hf := it_t hf c7
    refine lv_ldc (v := -100001) hx hb hown (hts (.constant RX5 68 (-100001)) (List.mem_of_getElem? (i := 1) rfl)) dX5_job_13 ?_
    obtain rfl := Option.some.inj hf
    subst hQ
    exact en_i hx hb hr hP hS hlocks dX5_job_15
  · replace hf := it_f hf c7
    refine lv_iload_n hx hb dX5_job_4 rfl (lv_at hl 2 rfl) ?_
    refine lv_iconst (v := 0) hx hb dX5_job_5 (by decide) ?_
    refine lv_iconst (v := 3) hx hb dX5_job_6 (by decide) ?_
    obtain ⟨o8, ho8, hf⟩ := bd_i hf
    refine cl_i [] [0] [wM cT g b u_mo] hP (va_D_adr hD rfl) hA hS (va_runS (As := [.int p1, .int ((0 : Int32)), .int ((3 : Int32))]) (rest := []) ⟨hx, hb, hml, hown, hts⟩ (c_X5_in l D cT g  fu  p1 ((0 : Int32)) ((3 : Int32)) o8 ho8 _) (va_cwS 3 hts gX5_job_X5_in rfl rfl rfl (by decide +kernel) ⟨Nat.le_of_ble_eq_true rfl, Nat.le_of_ble_eq_true rfl⟩) ⟨PRE_blind, PRE_ok [] (by decide) hP (va_D_adr hD rfl) hA hS hK hN hZ⟩ rfl rfl hl.1 rfl (lv_room (Nat.le_of_ble_eq_true rfl)) dX5_job_7 ⟨Nat.le_of_ble_eq_true rfl, Nat.le_of_ble_eq_true rfl⟩) rfl 1 rfl (by decide) (by decide) (fun H locs hP hS => ?_)
    refine lv_if_ne (tgt := 16) hx hb dX5_job_10 (by decide) (fun c9 => ?_) (fun c9 => ?_)
    · replace hf := it_t hf c9
      refine lv_iload_n hx hb dX5_job_16 rfl (lv_at hl 1 rfl) ?_
      refine lv_aload_n hx hb dX5_job_17 rfl (lv_at hl 0 rfl) ?_
      refine va_get (ci := 5) (v := .ref (g (b + 1))) (C := RX5) (T := TX5) (N := 12) hx hb hts iw_X5_job_X5 hown hK hP 0 rfl rfl 0 (by decide) (hts (.fieldLink RX5 7 "BallastTrackModel" "s" "[I") (List.mem_of_getElem? (i := 2) rfl)) (fun _ h9 => h9) rfl dX5_job_18 ?_
      refine lv_bipush (v := 16) hx hb dX5_job_21 (by decide) ?_
      refine va_iald hx hb hK hP 1 0 rfl rfl (by unfold vp_in; decide) dX5_job_23 ?_
      refine lv_topi (fun x10 ex10 => ?_)
      replace hf := nm_i hf ex10
      refine lv_icmp_ge (tgt := 36) hx hb dX5_job_24 (by decide) (fun c11 => ?_) (fun c11 => ?_)
      · replace hf := it_t hf c11
        refine lv_ldc (v := -100009) hx hb hown (hts (.constant RX5 165 (-100009)) (List.mem_of_getElem? (i := 3) rfl)) dX5_job_36 ?_
        obtain rfl := Option.some.inj hf
        subst hQ
        exact en_i hx hb hr hP hS hlocks dX5_job_38
      · replace hf := it_f hf c11
        refine lv_aload_n hx hb dX5_job_27 rfl (lv_at hl 0 rfl) ?_
        refine lv_iload_n hx hb dX5_job_28 rfl (lv_at hl 1 rfl) ?_
        refine lv_iload_n hx hb dX5_job_29 rfl (lv_at hl 2 rfl) ?_
        obtain ⟨o12, ho12, hf⟩ := bd_i hf
        refine cl_i [0] [] [wM cT g b u_mo] hP (va_D_adr hD rfl) hA hS (va_runV (As := [.int p0, .int p1]) (rest := []) ⟨hx, hb, hml, hown, hts⟩ (c_X5_jobOf l D cT g b fu u_mo p0 p1 o12 ho12 _) (cwV 2 hts gX5_job_X5_jobOf rfl rfl rfl (by decide +kernel) ⟨Nat.le_of_ble_eq_true rfl, Nat.le_of_ble_eq_true rfl⟩) ⟨PRE_blind, va_recv hK hP (ci := 5) (q0 := 0) rfl rfl, PRE_ok [0] (by decide) hP (va_D_adr hD rfl) hA hS hK hN hZ⟩ rfl rfl hl.1 rfl (lv_room (Nat.le_of_ble_eq_true rfl)) dX5_job_30 ⟨Nat.le_of_ble_eq_true rfl, Nat.le_of_ble_eq_true rfl⟩) rfl 1 rfl (by decide) (by decide) (fun H locs hP hS => ?_)
        refine lv_goto (tgt := 38) hx hb dX5_job_33 (by decide) ?_
        obtain rfl := Option.some.inj hf
        subst hQ
        exact en_i hx hb hr hP hS hlocks dX5_job_38
    · replace hf := it_f hf (not_not_intro c9)
      refine lv_ldc (v := -100001) hx hb hown (hts (.constant RX5 68 (-100001)) (List.mem_of_getElem? (i := 1) rfl)) dX5_job_13 ?_
      obtain rfl := Option.some.inj hf
      subst hQ
      exact en_i hx hb hr hP hS hlocks dX5_job_15
theorem iw_X5_account_X5 : ∀ w ∈ u_ws RX5 TX5 12, w ∈ wsX5_account := by decide +kernel
def f_X5_account (fu : Nat) (u_mo : TM) (p0 : Int32) : Option (Int32) :=
bd (f_X5_in fu  p0 ((0 : Int32)) ((6 : Int32))) fun (o6 : Bool) =>
if bI o6 = 0 then (
some ((-100001 : Int32))
)
else (
nm ((9 : Int32) + p0) fun (x8 : Int32) =>
ix x8 281 <|
nm ((M_ss u_mo) x8.toNatClampNeg) fun (x10 : Int32) =>
some (x10)
)

abbrev rm_X5_account : Room := { frames := 1, cells := 0, slots := 0, locals := 22 }
set_option maxHeartbeats 4000000 in
set_option maxRecDepth 100000 in
theorem c_X5_account (l : Launch) (D : va_G) (cT : Nat → ClassId) (g : Nat → Nat) (b : Nat) (fu : Nat) (u_mo : TM) (p0 : Int32) (o : Int32) (hf : f_X5_account fu u_mo p0 = some o) (sz : Nat) : Met l yX5_account wsX5_account rm_X5_account (va_Pc [.ref (g b), .int p0] (PRE D cT sz (List.flatten [wM cT g b u_mo]))) (QI D o (List.flatten [wM cT g b u_mo]) (va_A (List.flatten [wM cT g b u_mo]) sz)) 0 0 (va_A (List.flatten [wM cT g b u_mo]) sz) := by
  refine Met.ofW (cc := cX5_account) (maxL := 2) (ret := (some .int)) (by decide) rfl ?_
  intro p e s m args below meth c s₁ B0 hml hv
  obtain ⟨hav, hsz, hP, hK, hD, hN, hZ⟩ := hv
  have hx := B0.exec
  have hb := B0.bytes
  have hr := B0.returns
  have hts := atoms_spec (ws := wsX5_account) B0.pre
  have hown : s.vm.findClass RX5 = some m.cls := findClass_of_methodNamed B0.named
  have hlocks := B0.notSynchronized
  subst hsz
  have hD := hD.self (sz := s.heap.size)
  have hA : ∀ q : Nat, s.heap.size ≤ q → va_A (List.flatten [wM cT g b u_mo]) s.heap.size q := fun q h => Or.inr h
  generalize va_A (List.flatten [wM cT g b u_mo]) s.heap.size = A at hD hZ hA ⊢
  have hS : va_S A s.heap s.heap [] := va_S.rf
  have hl := lv_entry ([.ref (g b), .int p0]) (n := 2) (Nat.le_of_ble_eq_true rfl)
  rw [hav]
  rw [lg_entry_eq]
  generalize (lg_sl ([.ref (g b), .int p0]) ++ List.replicate (2 - (lg_sl ([.ref (g b), .int p0])).length) Slot.unset).toArray = ls at hl ⊢
  have hl : lv_has ls 2 [(0, .ref (g b)), (1, .int p0)] := hl
  rw [← hav]
  generalize hQ : MQ below _ _ _ _ _ _ = Q
  show W p l e rm_X5_account s m args below meth c s.heap [] 0 0 Q (F0 m 0 ls [])
  unfold f_X5_account at hf
  refine lv_iload_n hx hb dX5_account_0 rfl (lv_at hl 1 rfl) ?_
  refine lv_iconst (v := 0) hx hb dX5_account_1 (by decide) ?_
  refine lv_bipush (v := 6) hx hb dX5_account_2 (by decide) ?_
  obtain ⟨o6, ho6, hf⟩ := bd_i hf
  refine cl_i [] [0] [wM cT g b u_mo] hP (va_D_adr hD rfl) hA hS (va_runS (As := [.int p0, .int ((0 : Int32)), .int ((6 : Int32))]) (rest := []) ⟨hx, hb, hml, hown, hts⟩ (c_X5_in l D cT g  fu  p0 ((0 : Int32)) ((6 : Int32)) o6 ho6 _) (va_cwS 3 hts gX5_account_X5_in rfl rfl rfl (by decide +kernel) ⟨Nat.le_of_ble_eq_true rfl, Nat.le_of_ble_eq_true rfl⟩) ⟨PRE_blind, PRE_ok [] (by decide) hP (va_D_adr hD rfl) hA hS hK hN hZ⟩ rfl rfl hl.1 rfl (lv_room (Nat.le_of_ble_eq_true rfl)) dX5_account_4 ⟨Nat.le_of_ble_eq_true rfl, Nat.le_of_ble_eq_true rfl⟩) rfl 1 rfl (by decide) (by decide) (fun H locs hP hS => ?_)
  refine lv_if_eq (tgt := 22) hx hb dX5_account_7 (by decide) (fun c7 => ?_) (fun c7 => ?_)
  · replace hf := it_t hf c7
    refine lv_ldc (v := -100001) hx hb hown (hts (.constant RX5 68 (-100001)) (List.mem_of_getElem? (i := 2) rfl)) dX5_account_22 ?_
    obtain rfl := Option.some.inj hf
    subst hQ
    exact en_i hx hb hr hP hS hlocks dX5_account_24
  · replace hf := it_f hf c7
    refine lv_aload_n hx hb dX5_account_10 rfl (lv_at hl 0 rfl) ?_
    refine va_get (ci := 5) (v := .ref (g (b + 1))) (C := RX5) (T := TX5) (N := 12) hx hb hts iw_X5_account_X5 hown hK hP 0 rfl rfl 0 (by decide) (hts (.fieldLink RX5 7 "BallastTrackModel" "s" "[I") (List.mem_of_getElem? (i := 1) rfl)) (fun _ h9 => h9) rfl dX5_account_11 ?_
    refine lv_bipush (v := 9) hx hb dX5_account_14 (by decide) ?_
    refine lv_iload_n hx hb dX5_account_16 rfl (lv_at hl 1 rfl) ?_
    refine lv_iadd hx hb dX5_account_17 ?_
    refine lv_topi (fun x8 ex8 => ?_)
    replace hf := nm_i hf ex8
    obtain ⟨hi9, hf⟩ := ix_i hf
    refine va_iald hx hb hK hP 1 0 rfl rfl hi9 dX5_account_18 ?_
    refine lv_topi (fun x10 ex10 => ?_)
    replace hf := nm_i hf ex10
    refine lv_goto (tgt := 24) hx hb dX5_account_19 (by decide) ?_
    obtain rfl := Option.some.inj hf
    subst hQ
    exact en_i hx hb hr hP hS hlocks dX5_account_24
