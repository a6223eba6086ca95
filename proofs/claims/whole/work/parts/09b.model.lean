theorem iw_X5_orderAt_X5 : ∀ w ∈ u_ws RX5 TX5 12, w ∈ wsX5_orderAt := by decide +kernel
def lb_X5_orderAt_14 (fu : Nat) (u_mo : TM) (o21 : Int32) (rec : Int32 → Int32 → Option (Int32)) (v36 : Int32) (v37 : Int32) : Option (Int32) :=
if (3 : Int32) ≤ v37 then (
some (v36)
)
else (
nm ((4 : Int32) + v37) fun (x41 : Int32) =>
ix x41 281 <|
nm ((M_ss u_mo) x41.toNatClampNeg) fun (x43 : Int32) =>
jn (fun (x45 : Int32) =>
nm (v36 + x45) fun (x49 : Int32) =>
nm (v37 + (1 : Int32)) fun (x50 : Int32) =>
rec x49 x50
) fun K39_48 =>
if o21 ≤ x43 then (
K39_48 ((0 : Int32))
)
else (
K39_48 ((1 : Int32))
)
)

def lf_X5_orderAt_14 (fu : Nat) (u_mo : TM) (o21 : Int32) : Nat → Int32 → Int32 → Option (Int32) := lq_2 (lb_X5_orderAt_14 fu u_mo o21)
def f_X5_orderAt (fu : Nat) (u_mo : TM) (p0 : Int32) : Option (Int32) :=
bd (f_X5_defect fu u_mo p0) fun (o20 : Int32) =>
bd (f_X5_size fu  o20) fun (o21 : Int32) =>
bd (lf_X5_orderAt_14 fu u_mo o21 fu ((0 : Int32)) ((0 : Int32))) fun (z39 : Int32) =>
some (z39)

abbrev rm_X5_orderAt : Room := { frames := 1, cells := 0, slots := 0, locals := 22 }
set_option maxHeartbeats 4000000 in
set_option maxRecDepth 100000 in
theorem c_X5_orderAt (l : Launch) (D : va_G) (cT : Nat → ClassId) (g : Nat → Nat) (b : Nat) (fu : Nat) (u_mo : TM) (p0 : Int32) (o : Int32) (hf : f_X5_orderAt fu u_mo p0 = some o) (sz : Nat) : Met l yX5_orderAt wsX5_orderAt rm_X5_orderAt (va_Pc [.ref (g b), .int p0] (PRE D cT sz (List.flatten [wM cT g b u_mo]))) (QI D o (List.flatten [wM cT g b u_mo]) (va_A (List.flatten [wM cT g b u_mo]) sz)) 0 0 (va_A (List.flatten [wM cT g b u_mo]) sz) := by
  refine Met.ofW (cc := cX5_orderAt) (maxL := 5) (ret := (some .int)) (by decide) rfl ?_
  intro p e s m args below meth c s₁ B0 hml hv
  obtain ⟨hav, hsz, hP, hK, hD, hN, hZ⟩ := hv
  have hx := B0.exec
  have hb := B0.bytes
  have hr := B0.returns
  have hts := atoms_spec (ws := wsX5_orderAt) B0.pre
  have hown : s.vm.findClass RX5 = some m.cls := findClass_of_methodNamed B0.named
  have hlocks := B0.notSynchronized
  subst hsz
  have hD := hD.self (sz := s.heap.size)
  have hA : ∀ q : Nat, s.heap.size ≤ q → va_A (List.flatten [wM cT g b u_mo]) s.heap.size q := fun q h => Or.inr h
  generalize va_A (List.flatten [wM cT g b u_mo]) s.heap.size = A at hD hZ hA ⊢
  have hS : va_S A s.heap s.heap [] := va_S.rf
  have hl := lv_entry ([.ref (g b), .int p0]) (n := 5) (Nat.le_of_ble_eq_true rfl)
  rw [hav]
  rw [lg_entry_eq]
  generalize (lg_sl ([.ref (g b), .int p0]) ++ List.replicate (5 - (lg_sl ([.ref (g b), .int p0])).length) Slot.unset).toArray = ls at hl ⊢
  have hl : lv_has ls 5 [(0, .ref (g b)), (1, .int p0)] := hl
  rw [← hav]
  generalize hQ : MQ below _ _ _ _ _ _ = Q
  show W p l e rm_X5_orderAt s m args below meth c s.heap [] 0 0 Q (F0 m 0 ls [])
  unfold f_X5_orderAt at hf
  refine lv_aload_n hx hb dX5_orderAt_0 rfl (lv_at hl 0 rfl) ?_
  refine lv_iload_n hx hb dX5_orderAt_1 rfl (lv_at hl 1 rfl) ?_
  obtain ⟨o20, ho20, hf⟩ := bd_i hf
  refine cl_i [0] [] [wM cT g b u_mo] hP (va_D_adr hD rfl) hA hS (va_runV (As := [.int p0]) (rest := []) ⟨hx, hb, hml, hown, hts⟩ (c_X5_defect l D cT g b fu u_mo p0 o20 ho20 _) (cwV 1 hts gX5_orderAt_X5_defect rfl rfl rfl (by decide +kernel) ⟨Nat.le_of_ble_eq_true rfl, Nat.le_of_ble_eq_true rfl⟩) ⟨PRE_blind, va_recv hK hP (ci := 5) (q0 := 0) rfl rfl, PRE_ok [0] (by decide) hP (va_D_adr hD rfl) hA hS hK hN hZ⟩ rfl rfl hl.1 rfl (lv_room (Nat.le_of_ble_eq_true rfl)) dX5_orderAt_2 ⟨Nat.le_of_ble_eq_true rfl, Nat.le_of_ble_eq_true rfl⟩) rfl 1 rfl (by decide) (by decide) (fun H locs hP hS => ?_)
  obtain ⟨o21, ho21, hf⟩ := bd_i hf
  refine cl_i [] [0] [wM cT g b u_mo] hP (va_D_adr hD rfl) hA hS (va_runS (As := [.int o20]) (rest := []) ⟨hx, hb, hml, hown, hts⟩ (c_X5_size l D cT g  fu  o20 o21 ho21 _) (va_cwS 1 hts gX5_orderAt_X5_size rfl rfl rfl (by decide +kernel) ⟨Nat.le_of_ble_eq_true rfl, Nat.le_of_ble_eq_true rfl⟩) ⟨PRE_blind, PRE_ok [] (by decide) hP (va_D_adr hD rfl) hA hS hK hN hZ⟩ rfl rfl hl.1 rfl (lv_room (Nat.le_of_ble_eq_true rfl)) dX5_orderAt_5 ⟨Nat.le_of_ble_eq_true rfl, Nat.le_of_ble_eq_true rfl⟩) rfl 1 rfl (by decide) (by decide) (fun H locs hP hS => ?_)
  refine lv_istore_n (lv' := [(2, .int o21), (0, .ref (g b)), (1, .int p0)]) hx hb dX5_orderAt_8 rfl hl (by decide) rfl (fun ls hl => ?_)
  refine lv_iconst (v := 0) hx hb dX5_orderAt_9 (by decide) ?_
  refine lv_istore_n (lv' := [(3, .int ((0 : Int32))), (2, .int o21), (0, .ref (g b)), (1, .int p0)]) hx hb dX5_orderAt_10 rfl hl (by decide) rfl (fun ls hl => ?_)
  refine lv_iconst (v := 0) hx hb dX5_orderAt_11 (by decide) ?_
  refine lv_istore (lv' := [(4, .int ((0 : Int32))), (3, .int ((0 : Int32))), (2, .int o21), (0, .ref (g b)), (1, .int p0)]) hx hb dX5_orderAt_12 hl (by decide) rfl (fun ls hl => ?_)
  obtain ⟨z39, hz39, hf⟩ := bd_i hf
  have hL14 : ∀ (n : Nat) (v36 : Int32) (v37 : Int32) (z38 : Int32), lf_X5_orderAt_14 fu u_mo o21 n v36 v37 = some z38 → ∀ (H : Heap) (locs : List Loc) (ls : Array Slot), va_P D vwCl (List.flatten [wM cT g b u_mo]) H → va_S A s.heap H locs → lv_has ls 5 [(0, .ref (g b)), (2, .int o21), (3, .int v36), (4, .int v37)] → (∀ (H : Heap) (locs : List Loc) (ls : Array Slot), va_P D vwCl (List.flatten [wM cT g b u_mo]) H → va_S A s.heap H locs → lv_has ls 5 [(3, .int z38)] → W p l e rm_X5_orderAt s m args below meth c H locs 0 0 Q (F0 m 47 ls [])) → W p l e rm_X5_orderAt s m args below meth c H locs 0 0 Q (F0 m 14 ls []) := by
    refine lq_2_ind (F := lb_X5_orderAt_14 fu u_mo o21) (fun rec ih v36 v37 z38 hf H locs ls hP hS hl kx => ?_)
    unfold lb_X5_orderAt_14 at hf
    refine lv_iload hx hb dX5_orderAt_14 (lv_at hl 3 rfl) ?_
    refine lv_iconst (v := 3) hx hb dX5_orderAt_16 (by decide) ?_
    refine lv_icmp_ge (tgt := 47) hx hb dX5_orderAt_17 (by decide) (fun c40 => ?_) (fun c40 => ?_)
    · replace hf := it_t hf c40
      obtain rfl := Option.some.inj hf
      exact kx _ _ _ hP hS (lv_sub hl [2] rfl)
    · replace hf := it_f hf c40
      refine lv_iload_n hx hb dX5_orderAt_20 rfl (lv_at hl 2 rfl) ?_
      refine lv_iload_n hx hb dX5_orderAt_21 rfl (lv_at hl 1 rfl) ?_
      refine lv_aload_n hx hb dX5_orderAt_22 rfl (lv_at hl 0 rfl) ?_
      refine va_get (ci := 5) (v := .ref (g (b + 1))) (C := RX5) (T := TX5) (N := 12) hx hb hts iw_X5_orderAt_X5 hown hK hP 0 rfl rfl 0 (by decide) (hts (.fieldLink RX5 7 "BallastTrackModel" "s" "[I") (List.mem_of_getElem? (i := 1) rfl)) (fun _ h9 => h9) rfl dX5_orderAt_23 ?_
      refine lv_iconst (v := 4) hx hb dX5_orderAt_26 (by decide) ?_
      refine lv_iload hx hb dX5_orderAt_27 (lv_at hl 3 rfl) ?_
      refine lv_iadd hx hb dX5_orderAt_29 ?_
      refine lv_topi (fun x41 ex41 => ?_)
      replace hf := nm_i hf ex41
      obtain ⟨hi42, hf⟩ := ix_i hf
      refine va_iald hx hb hK hP 1 0 rfl rfl hi42 dX5_orderAt_30 ?_
      refine lv_topi (fun x43 ex43 => ?_)
      replace hf := nm_i hf ex43
      obtain ⟨K39_48, eK39_48, hf⟩ := jn_i hf
      have hK39_48 : ∀ (x45 : Int32) (H : Heap) (locs : List Loc) (ls : Array Slot), K39_48 x45 = some z38 → va_P D vwCl (List.flatten [wM cT g b u_mo]) H → va_S A s.heap H locs → lv_has ls 5 [(0, .ref (g b)), (2, .int o21), (4, .int v37)] → W p l e rm_X5_orderAt s m args below meth c H locs 0 0 Q (F0 m 39 ls [.int x45, .int v36]) := by
        intro x45 H locs ls hf hP hS hl
        rw [eK39_48] at hf
        refine lv_iadd hx hb dX5_orderAt_39 ?_
        refine lv_topi (fun x49 ex49 => ?_)
        replace hf := nm_i hf ex49
        refine lv_istore_n (lv' := [(3, .int x49), (0, .ref (g b)), (2, .int o21), (4, .int v37)]) hx hb dX5_orderAt_40 rfl hl (by decide) rfl (fun ls hl => ?_)
        obtain ⟨x50, ex50⟩ : ∃ z : Int32, z = v37 + (1 : Int32) := ⟨_, rfl⟩
        replace hf := nm_i hf ex50
        refine lv_iinc (v := x50) (lv' := [(4, .int x50), (3, .int x49), (0, .ref (g b)), (2, .int o21)]) hx hb dX5_orderAt_41 hl (k := 3) rfl (by rw [ex50]; rfl) (by decide) rfl (fun ls hl => ?_)
        refine lv_goto (tgt := 14) hx hb dX5_orderAt_44 (by decide) ?_
        exact ih _ _ _ hf _ _ _ hP hS (lv_sub hl [2, 3, 1, 0] rfl) kx
      clear eK39_48
      refine lv_icmp_le (tgt := 38) hx hb dX5_orderAt_31 (by decide) (fun c51 => ?_) (fun c51 => ?_)
      · replace hf := it_t hf c51
        refine lv_iconst (v := 0) hx hb dX5_orderAt_38 (by decide) ?_
        exact hK39_48 _ _ _ _ hf hP hS (lv_sub hl [0, 1, 3] rfl)
      · replace hf := it_f hf c51
        refine lv_iconst (v := 1) hx hb dX5_orderAt_34 (by decide) ?_
        refine lv_goto (tgt := 39) hx hb dX5_orderAt_35 (by decide) ?_
        exact hK39_48 _ _ _ _ hf hP hS (lv_sub hl [0, 1, 3] rfl)
  refine hL14 fu _ _ _ hz39 _ _ _ hP hS (lv_sub hl [3, 2, 1, 0] rfl) (fun H locs ls hP hS hl => ?_)
  refine lv_iload_n hx hb dX5_orderAt_47 rfl (lv_at hl 0 rfl) ?_
  obtain rfl := Option.some.inj hf
  subst hQ
  exact en_i hx hb hr hP hS hlocks dX5_orderAt_48
theorem iw_X5_order_X5 : ∀ w ∈ u_ws RX5 TX5 12, w ∈ wsX5_order := by decide +kernel
def lb_X5_order_4 (fu : Nat) (u_mo : TM) (rec : Int32 → Int32 → Option (Int32)) (v22 : Int32) (v23 : Int32) : Option (Int32) :=
ix ((0 : Int32)) 281 <|
nm ((M_ss u_mo) ((0 : Int32)).toNatClampNeg) fun (x27 : Int32) =>
if x27 ≤ v23 then (
some (v22)
)
else (
bd (f_X5_orderAt fu u_mo v23) fun (o29 : Int32) =>
bd (f_X5_greater fu  v22 o29) fun (o30 : Int32) =>
nm (v23 + (1 : Int32)) fun (x31 : Int32) =>
rec o30 x31
)

def lf_X5_order_4 (fu : Nat) (u_mo : TM) : Nat → Int32 → Int32 → Option (Int32) := lq_2 (lb_X5_order_4 fu u_mo)
def f_X5_order (fu : Nat) (u_mo : TM)  : Option (Int32) :=
bd (lf_X5_order_4 fu u_mo fu ((0 : Int32)) ((0 : Int32))) fun (z25 : Int32) =>
some (z25)

abbrev rm_X5_order : Room := { frames := 2, cells := 0, slots := 0, locals := 46 }
set_option maxHeartbeats 4000000 in
set_option maxRecDepth 100000 in
theorem c_X5_order (l : Launch) (D : va_G) (cT : Nat → ClassId) (g : Nat → Nat) (b : Nat) (fu : Nat) (u_mo : TM)  (o : Int32) (hf : f_X5_order fu u_mo  = some o) (sz : Nat) : Met l yX5_order wsX5_order rm_X5_order (va_Pc [.ref (g b)] (PRE D cT sz (List.flatten [wM cT g b u_mo]))) (QI D o (List.flatten [wM cT g b u_mo]) (va_A (List.flatten [wM cT g b u_mo]) sz)) 0 0 (va_A (List.flatten [wM cT g b u_mo]) sz) := by
  refine Met.ofW (cc := cX5_order) (maxL := 3) (ret := (some .int)) (by decide) rfl ?_
  intro p e s m args below meth c s₁ B0 hml hv
  obtain ⟨hav, hsz, hP, hK, hD, hN, hZ⟩ := hv
  have hx := B0.exec
  have hb := B0.bytes
  have hr := B0.returns
  have hts := atoms_spec (ws := wsX5_order) B0.pre
  have hown : s.vm.findClass RX5 = some m.cls := findClass_of_methodNamed B0.named
  have hlocks := B0.notSynchronized
  subst hsz
  have hD := hD.self (sz := s.heap.size)
  have hA : ∀ q : Nat, s.heap.size ≤ q → va_A (List.flatten [wM cT g b u_mo]) s.heap.size q := fun q h => Or.inr h
  generalize va_A (List.flatten [wM cT g b u_mo]) s.heap.size = A at hD hZ hA ⊢
  have hS : va_S A s.heap s.heap [] := va_S.rf
  have hl := lv_entry ([.ref (g b)]) (n := 3) (Nat.le_of_ble_eq_true rfl)
  rw [hav]
  rw [lg_entry_eq]
  generalize (lg_sl ([.ref (g b)]) ++ List.replicate (3 - (lg_sl ([.ref (g b)])).length) Slot.unset).toArray = ls at hl ⊢
  have hl : lv_has ls 3 [(0, .ref (g b))] := hl
  rw [← hav]
  generalize hQ : MQ below _ _ _ _ _ _ = Q
  show W p l e rm_X5_order s m args below meth c s.heap [] 0 0 Q (F0 m 0 ls [])
  unfold f_X5_order at hf
  refine lv_iconst (v := 0) hx hb dX5_order_0 (by decide) ?_
  refine lv_istore_n (lv' := [(1, .int ((0 : Int32))), (0, .ref (g b))]) hx hb dX5_order_1 rfl hl (by decide) rfl (fun ls hl => ?_)
  refine lv_iconst (v := 0) hx hb dX5_order_2 (by decide) ?_
  refine lv_istore_n (lv' := [(2, .int ((0 : Int32))), (1, .int ((0 : Int32))), (0, .ref (g b))]) hx hb dX5_order_3 rfl hl (by decide) rfl (fun ls hl => ?_)
  obtain ⟨z25, hz25, hf⟩ := bd_i hf
  have hL4 : ∀ (n : Nat) (v22 : Int32) (v23 : Int32) (z24 : Int32), lf_X5_order_4 fu u_mo n v22 v23 = some z24 → ∀ (H : Heap) (locs : List Loc) (ls : Array Slot), va_P D vwCl (List.flatten [wM cT g b u_mo]) H → va_S A s.heap H locs → lv_has ls 3 [(0, .ref (g b)), (1, .int v22), (2, .int v23)] → (∀ (H : Heap) (locs : List Loc) (ls : Array Slot), va_P D vwCl (List.flatten [wM cT g b u_mo]) H → va_S A s.heap H locs → lv_has ls 3 [(1, .int z24)] → W p l e rm_X5_order s m args below meth c H locs 0 0 Q (F0 m 30 ls [])) → W p l e rm_X5_order s m args below meth c H locs 0 0 Q (F0 m 4 ls []) := by
    refine lq_2_ind (F := lb_X5_order_4 fu u_mo) (fun rec ih v22 v23 z24 hf H locs ls hP hS hl kx => ?_)
    unfold lb_X5_order_4 at hf
    refine lv_iload_n hx hb dX5_order_4 rfl (lv_at hl 2 rfl) ?_
    refine lv_aload_n hx hb dX5_order_5 rfl (lv_at hl 0 rfl) ?_
    refine va_get (ci := 5) (v := .ref (g (b + 1))) (C := RX5) (T := TX5) (N := 12) hx hb hts iw_X5_order_X5 hown hK hP 0 rfl rfl 0 (by decide) (hts (.fieldLink RX5 7 "BallastTrackModel" "s" "[I") (List.mem_of_getElem? (i := 1) rfl)) (fun _ h9 => h9) rfl dX5_order_6 ?_
    refine lv_iconst (v := 0) hx hb dX5_order_9 (by decide) ?_
    obtain ⟨hi26, hf⟩ := ix_i hf
    refine va_iald hx hb hK hP 1 0 rfl rfl hi26 dX5_order_10 ?_
    refine lv_topi (fun x27 ex27 => ?_)
    replace hf := nm_i hf ex27
    refine lv_icmp_ge (tgt := 30) hx hb dX5_order_11 (by decide) (fun c28 => ?_) (fun c28 => ?_)
    · replace hf := it_t hf c28
      obtain rfl := Option.some.inj hf
      exact kx _ _ _ hP hS (lv_sub hl [1] rfl)
    · replace hf := it_f hf c28
      refine lv_iload_n hx hb dX5_order_14 rfl (lv_at hl 1 rfl) ?_
      refine lv_aload_n hx hb dX5_order_15 rfl (lv_at hl 0 rfl) ?_
      refine lv_iload_n hx hb dX5_order_16 rfl (lv_at hl 2 rfl) ?_
      obtain ⟨o29, ho29, hf⟩ := bd_i hf
      refine cl_i [0] [] [wM cT g b u_mo] hP (va_D_adr hD rfl) hA hS (va_runV (As := [.int v23]) (rest := [.int v22]) ⟨hx, hb, hml, hown, hts⟩ (c_X5_orderAt l D cT g b fu u_mo v23 o29 ho29 _) (cwV 1 hts gX5_order_X5_orderAt rfl rfl rfl (by decide +kernel) ⟨Nat.le_of_ble_eq_true rfl, Nat.le_of_ble_eq_true rfl⟩) ⟨PRE_blind, va_recv hK hP (ci := 5) (q0 := 0) rfl rfl, PRE_ok [0] (by decide) hP (va_D_adr hD rfl) hA hS hK hN hZ⟩ rfl rfl hl.1 rfl (lv_room (Nat.le_of_ble_eq_true rfl)) dX5_order_17 ⟨Nat.le_of_ble_eq_true rfl, Nat.le_of_ble_eq_true rfl⟩) rfl 1 rfl (by decide) (by decide) (fun H locs hP hS => ?_)
      obtain ⟨o30, ho30, hf⟩ := bd_i hf
      refine cl_i [] [0] [wM cT g b u_mo] hP (va_D_adr hD rfl) hA hS (va_runS (As := [.int v22, .int o29]) (rest := []) ⟨hx, hb, hml, hown, hts⟩ (c_X5_greater l D cT g  fu  v22 o29 o30 ho30 _) (va_cwS 2 hts gX5_order_X5_greater rfl rfl rfl (by decide +kernel) ⟨Nat.le_of_ble_eq_true rfl, Nat.le_of_ble_eq_true rfl⟩) ⟨PRE_blind, PRE_ok [] (by decide) hP (va_D_adr hD rfl) hA hS hK hN hZ⟩ rfl rfl hl.1 rfl (lv_room (Nat.le_of_ble_eq_true rfl)) dX5_order_20 ⟨Nat.le_of_ble_eq_true rfl, Nat.le_of_ble_eq_true rfl⟩) rfl 1 rfl (by decide) (by decide) (fun H locs hP hS => ?_)
      refine lv_istore_n (lv' := [(1, .int o30), (0, .ref (g b)), (2, .int v23)]) hx hb dX5_order_23 rfl hl (by decide) rfl (fun ls hl => ?_)
      obtain ⟨x31, ex31⟩ : ∃ z : Int32, z = v23 + (1 : Int32) := ⟨_, rfl⟩
      replace hf := nm_i hf ex31
      refine lv_iinc (v := x31) (lv' := [(2, .int x31), (1, .int o30), (0, .ref (g b))]) hx hb dX5_order_24 hl (k := 2) rfl (by rw [ex31]; rfl) (by decide) rfl (fun ls hl => ?_)
      refine lv_goto (tgt := 4) hx hb dX5_order_27 (by decide) ?_
      exact ih _ _ _ hf _ _ _ hP hS (lv_sub hl [2, 1, 0] rfl) kx
  refine hL4 fu _ _ _ hz25 _ _ _ hP hS (lv_sub hl [2, 1, 0] rfl) (fun H locs ls hP hS hl => ?_)
  refine lv_iload_n hx hb dX5_order_30 rfl (lv_at hl 0 rfl) ?_
  obtain rfl := Option.some.inj hf
  subst hQ
  exact en_i hx hb hr hP hS hlocks dX5_order_31
def lb_X5_nearest_4 (fu : Nat) (u_mo : TM) (p1 : Int32) (rec : Int32 → Option (Int32)) (v21 : Int32) : Option (Int32) :=
bd (f_X5_isSleeper fu u_mo v21) fun (o24 : Bool) =>
if bI o24 = 0 then (
some (v21)
)
else (
bd (f_X5_hangs fu u_mo v21) fun (o26 : Bool) =>
if bI o26 = 0 then (
some (v21)
)
else (
nm (v21 + p1) fun (x28 : Int32) =>
rec x28
)
)

def lf_X5_nearest_4 (fu : Nat) (u_mo : TM) (p1 : Int32) : Nat → Int32 → Option (Int32) := lq_1 (lb_X5_nearest_4 fu u_mo p1)
def f_X5_nearest (fu : Nat) (u_mo : TM) (p0 : Int32) (p1 : Int32) : Option (Int32) :=
nm (p0 + p1) fun (x13 : Int32) =>
bd (lf_X5_nearest_4 fu u_mo p1 fu x13) fun (z23 : Int32) =>
bd (f_X5_isSleeper fu u_mo z23) fun (o29 : Bool) =>
if bI o29 = 0 then (
some ((-1 : Int32))
)
else (
some (z23)
)

abbrev rm_X5_nearest : Room := { frames := 2, cells := 0, slots := 0, locals := 43 }
set_option maxHeartbeats 4000000 in
set_option maxRecDepth 100000 in
theorem c_X5_nearest (l : Launch) (D : va_G) (cT : Nat → ClassId) (g : Nat → Nat) (b : Nat) (fu : Nat) (u_mo : TM) (p0 : Int32) (p1 : Int32) (o : Int32) (hf : f_X5_nearest fu u_mo p0 p1 = some o) (sz : Nat) : Met l yX5_nearest wsX5_nearest rm_X5_nearest (va_Pc [.ref (g b), .int p0, .int p1] (PRE D cT sz (List.flatten [wM cT g b u_mo]))) (QI D o (List.flatten [wM cT g b u_mo]) (va_A (List.flatten [wM cT g b u_mo]) sz)) 0 0 (va_A (List.flatten [wM cT g b u_mo]) sz) := by
  refine Met.ofW (cc := cX5_nearest) (maxL := 4) (ret := (some .int)) (by decide) rfl ?_
  intro p e s m args below meth c s₁ B0 hml hv
  obtain ⟨hav, hsz, hP, hK, hD, hN, hZ⟩ := hv
  have hx := B0.exec
  have hb := B0.bytes
  have hr := B0.returns
  have hts := atoms_spec (ws := wsX5_nearest) B0.pre
  have hown : s.vm.findClass RX5 = some m.cls := findClass_of_methodNamed B0.named
  have hlocks := B0.notSynchronized
  subst hsz
  have hD := hD.self (sz := s.heap.size)
  have hA : ∀ q : Nat, s.heap.size ≤ q → va_A (List.flatten [wM cT g b u_mo]) s.heap.size q := fun q h => Or.inr h
  generalize va_A (List.flatten [wM cT g b u_mo]) s.heap.size = A at hD hZ hA ⊢
  have hS : va_S A s.heap s.heap [] := va_S.rf
  have hl := lv_entry ([.ref (g b), .int p0, .int p1]) (n := 4) (Nat.le_of_ble_eq_true rfl)
  rw [hav]
  rw [lg_entry_eq]
  generalize (lg_sl ([.ref (g b), .int p0, .int p1]) ++ List.replicate (4 - (lg_sl ([.ref (g b), .int p0, .int p1])).length) Slot.unset).toArray = ls at hl ⊢
  have hl : lv_has ls 4 [(0, .ref (g b)), (1, .int p0), (2, .int p1)] := hl
  rw [← hav]
  generalize hQ : MQ below _ _ _ _ _ _ = Q
  show W p l e rm_X5_nearest s m args below meth c s.heap [] 0 0 Q (F0 m 0 ls [])
  unfold f_X5_nearest at hf
  refine lv_iload_n hx hb dX5_nearest_0 rfl (lv_at hl 1 rfl) ?_
  refine lv_iload_n hx hb dX5_nearest_1 rfl (lv_at hl 2 rfl) ?_
  refine lv_iadd hx hb dX5_nearest_2 ?_
  refine lv_topi (fun x13 ex13 => ?_)
  replace hf := nm_i hf ex13
  refine lv_istore_n (lv' := [(3, .int x13), (0, .ref (g b)), (1, .int p0), (2, .int p1)]) hx hb dX5_nearest_3 rfl hl (by decide) rfl (fun ls hl => ?_)
  obtain ⟨z23, hz23, hf⟩ := bd_i hf
  have hL4 : ∀ (n : Nat) (v21 : Int32) (z22 : Int32), lf_X5_nearest_4 fu u_mo p1 n v21 = some z22 → ∀ (H : Heap) (locs : List Loc) (ls : Array Slot), va_P D vwCl (List.flatten [wM cT g b u_mo]) H → va_S A s.heap H locs → lv_has ls 4 [(0, .ref (g b)), (2, .int p1), (3, .int v21)] → (∀ (H : Heap) (locs : List Loc) (ls : Array Slot), va_P D vwCl (List.flatten [wM cT g b u_mo]) H → va_S A s.heap H locs → lv_has ls 4 [(0, .ref (g b)), (3, .int z22)] → W p l e rm_X5_nearest s m args below meth c H locs 0 0 Q (F0 m 27 ls [])) → W p l e rm_X5_nearest s m args below meth c H locs 0 0 Q (F0 m 4 ls []) := by
    refine lq_1_ind (F := lb_X5_nearest_4 fu u_mo p1) (fun rec ih v21 z22 hf H locs ls hP hS hl kx => ?_)
    unfold lb_X5_nearest_4 at hf
    refine lv_aload_n hx hb dX5_nearest_4 rfl (lv_at hl 0 rfl) ?_
    refine lv_iload_n hx hb dX5_nearest_5 rfl (lv_at hl 2 rfl) ?_
    obtain ⟨o24, ho24, hf⟩ := bd_i hf
    refine cl_i [0] [] [wM cT g b u_mo] hP (va_D_adr hD rfl) hA hS (va_runV (As := [.int v21]) (rest := []) ⟨hx, hb, hml, hown, hts⟩ (c_X5_isSleeper l D cT g b fu u_mo v21 o24 ho24 _) (cwV 1 hts gX5_nearest_X5_isSleeper rfl rfl rfl (by decide +kernel) ⟨Nat.le_of_ble_eq_true rfl, Nat.le_of_ble_eq_true rfl⟩) ⟨PRE_blind, va_recv hK hP (ci := 5) (q0 := 0) rfl rfl, PRE_ok [0] (by decide) hP (va_D_adr hD rfl) hA hS hK hN hZ⟩ rfl rfl hl.1 rfl (lv_room (Nat.le_of_ble_eq_true rfl)) dX5_nearest_6 ⟨Nat.le_of_ble_eq_true rfl, Nat.le_of_ble_eq_true rfl⟩) rfl 1 rfl (by decide) (by decide) (fun H locs hP hS => ?_)
    refine lv_if_eq (tgt := 27) hx hb dX5_nearest_9 (by decide) (fun c25 => ?_) (fun c25 => ?_)
    · replace hf := it_t hf c25
      obtain rfl := Option.some.inj hf
      exact kx _ _ _ hP hS (lv_sub hl [0, 2] rfl)
    · replace hf := it_f hf c25
      refine lv_aload_n hx hb dX5_nearest_12 rfl (lv_at hl 0 rfl) ?_
      refine lv_iload_n hx hb dX5_nearest_13 rfl (lv_at hl 2 rfl) ?_
      obtain ⟨o26, ho26, hf⟩ := bd_i hf
      refine cl_i [0] [] [wM cT g b u_mo] hP (va_D_adr hD rfl) hA hS (va_runV (As := [.int v21]) (rest := []) ⟨hx, hb, hml, hown, hts⟩ (c_X5_hangs l D cT g b fu u_mo v21 o26 ho26 _) (cwV 1 hts gX5_nearest_X5_hangs rfl rfl rfl (by decide +kernel) ⟨Nat.le_of_ble_eq_true rfl, Nat.le_of_ble_eq_true rfl⟩) ⟨PRE_blind, va_recv hK hP (ci := 5) (q0 := 0) rfl rfl, PRE_ok [0] (by decide) hP (va_D_adr hD rfl) hA hS hK hN hZ⟩ rfl rfl hl.1 rfl (lv_room (Nat.le_of_ble_eq_true rfl)) dX5_nearest_14 ⟨Nat.le_of_ble_eq_true rfl, Nat.le_of_ble_eq_true rfl⟩) rfl 1 rfl (by decide) (by decide) (fun H locs hP hS => ?_)
      refine lv_if_eq (tgt := 27) hx hb dX5_nearest_17 (by decide) (fun c27 => ?_) (fun c27 => ?_)
      · replace hf := it_t hf c27
        obtain rfl := Option.some.inj hf
        exact kx _ _ _ hP hS (lv_sub hl [0, 2] rfl)
      · replace hf := it_f hf c27
        refine lv_iload_n hx hb dX5_nearest_20 rfl (lv_at hl 2 rfl) ?_
        refine lv_iload_n hx hb dX5_nearest_21 rfl (lv_at hl 1 rfl) ?_
        refine lv_iadd hx hb dX5_nearest_22 ?_
        refine lv_topi (fun x28 ex28 => ?_)
        replace hf := nm_i hf ex28
        refine lv_istore_n (lv' := [(3, .int x28), (0, .ref (g b)), (2, .int p1)]) hx hb dX5_nearest_23 rfl hl (by decide) rfl (fun ls hl => ?_)
        refine lv_goto (tgt := 4) hx hb dX5_nearest_24 (by decide) ?_
        exact ih _ _ hf _ _ _ hP hS (lv_sub hl [1, 2, 0] rfl) kx
  refine hL4 fu _ _ hz23 _ _ _ hP hS (lv_sub hl [1, 3, 0] rfl) (fun H locs ls hP hS hl => ?_)
  refine lv_aload_n hx hb dX5_nearest_27 rfl (lv_at hl 0 rfl) ?_
  refine lv_iload_n hx hb dX5_nearest_28 rfl (lv_at hl 1 rfl) ?_
  obtain ⟨o29, ho29, hf⟩ := bd_i hf
  refine cl_i [0] [] [wM cT g b u_mo] hP (va_D_adr hD rfl) hA hS (va_runV (As := [.int z23]) (rest := []) ⟨hx, hb, hml, hown, hts⟩ (c_X5_isSleeper l D cT g b fu u_mo z23 o29 ho29 _) (cwV 1 hts gX5_nearest_X5_isSleeper rfl rfl rfl (by decide +kernel) ⟨Nat.le_of_ble_eq_true rfl, Nat.le_of_ble_eq_true rfl⟩) ⟨PRE_blind, va_recv hK hP (ci := 5) (q0 := 0) rfl rfl, PRE_ok [0] (by decide) hP (va_D_adr hD rfl) hA hS hK hN hZ⟩ rfl rfl hl.1 rfl (lv_room (Nat.le_of_ble_eq_true rfl)) dX5_nearest_29 ⟨Nat.le_of_ble_eq_true rfl, Nat.le_of_ble_eq_true rfl⟩) rfl 1 rfl (by decide) (by decide) (fun H locs hP hS => ?_)
  refine lv_if_eq (tgt := 39) hx hb dX5_nearest_32 (by decide) (fun c30 => ?_) (fun c30 => ?_)
  · replace hf := it_t hf c30
    refine lv_iconst (v := -1) hx hb dX5_nearest_39 (by decide) ?_
    obtain rfl := Option.some.inj hf
    subst hQ
    exact en_i hx hb hr hP hS hlocks dX5_nearest_40
  · replace hf := it_f hf c30
    refine lv_iload_n hx hb dX5_nearest_35 rfl (lv_at hl 1 rfl) ?_
    refine lv_goto (tgt := 40) hx hb dX5_nearest_36 (by decide) ?_
    obtain rfl := Option.some.inj hf
    subst hQ
    exact en_i hx hb hr hP hS hlocks dX5_nearest_40
theorem iw_X5_laysLoads_X5 : ∀ w ∈ u_ws RX5 TX5 12, w ∈ wsX5_laysLoads := by decide +kernel
def lb_X5_laysLoads_2 (fu : Nat)  (rec : Int32 → TM → Option (TM)) (v130 : Int32) (u131 : TM) : Option (TM) :=
ix ((0 : Int32)) 281 <|
nm ((M_ss u131) ((0 : Int32)).toNatClampNeg) fun (x135 : Int32) =>
if x135 ≤ v130 then (
some (u131)
)
else (
bd (f_X5_hangs fu u131 v130) fun (o137 : Bool) =>
jn (fun (x139 : Int32) =>
ix v130 60 <|
nm (M_lo_ u131 (upd (M_lo u131) v130.toNatClampNeg x139)) fun (u145 : TM) =>
nm (v130 + (1 : Int32)) fun (x146 : Int32) =>
rec x146 u145
) fun K30_143 =>
if bI o137 = 0 then (
K30_143 ((2 : Int32))
)
else (
K30_143 ((0 : Int32))
)
)

def lf_X5_laysLoads_2 (fu : Nat)  : Nat → Int32 → TM → Option (TM) := lq_2 (lb_X5_laysLoads_2 fu )
def lb_X5_laysLoads_39 (fu : Nat)  (rec : Int32 → TM → Option (TM)) (v241 : Int32) (u242 : TM) : Option (TM) :=
ix ((0 : Int32)) 281 <|
nm ((M_ss u242) ((0 : Int32)).toNatClampNeg) fun (x246 : Int32) =>
if x246 ≤ v241 then (
some (u242)
)
else (
bd (f_X5_hangs fu u242 v241) fun (o248 : Bool) =>
jn (fun (u291 : TM) =>
nm (v241 + (1 : Int32)) fun (x294 : Int32) =>
rec x294 u291
) fun K107_293 =>
if bI o248 = 0 then (
K107_293 u242
)
else (
bd (f_X5_nearest fu u242 v241 ((-1 : Int32))) fun (o296 : Int32) =>
bd (f_X5_nearest fu u242 v241 ((1 : Int32))) fun (o297 : Int32) =>
jn (fun (x299 : Int32) =>
ix x299 60 <|
nm ((M_lo u242) x299.toNatClampNeg) fun (x320 : Int32) =>
nm (x320 + (1 : Int32)) fun (x321 : Int32) =>
ix x299 60 <|
nm (M_lo_ u242 (upd (M_lo u242) x299.toNatClampNeg x321)) fun (u323 : TM) =>
jn (fun (x325 : Int32) =>
ix x325 60 <|
nm ((M_lo u323) x325.toNatClampNeg) fun (x333 : Int32) =>
nm (x333 + (1 : Int32)) fun (x334 : Int32) =>
ix x325 60 <|
nm (M_lo_ u323 (upd (M_lo u323) x325.toNatClampNeg x334)) fun (u336 : TM) =>
K107_293 u336
) fun K102_331 =>
if 0 ≤ o297 then (
K102_331 o297
)
else (
K102_331 o296
)
) fun K84_318 =>
if 0 ≤ o296 then (
K84_318 o296
)
else (
K84_318 o297
)
)
)

def lf_X5_laysLoads_39 (fu : Nat)  : Nat → Int32 → TM → Option (TM) := lq_2 (lb_X5_laysLoads_39 fu )
def f_X5_laysLoads (fu : Nat) (u_mo : TM)  : Option (TM) :=
bd (lf_X5_laysLoads_2 fu  fu ((0 : Int32)) u_mo) fun (z133 : TM) =>
bd (lf_X5_laysLoads_39 fu  fu ((0 : Int32)) z133) fun (z244 : TM) =>
some (z244)

abbrev rm_X5_laysLoads : Room := { frames := 3, cells := 0, slots := 0, locals := 66 }
set_option maxHeartbeats 4000000 in
set_option maxRecDepth 100000 in
theorem c_X5_laysLoads (l : Launch) (D : va_G) (cT : Nat → ClassId) (g : Nat → Nat) (b : Nat) (fu : Nat) (u_mo : TM)  (o : TM) (hf : f_X5_laysLoads fu u_mo  = some o) (sz : Nat) : Met l yX5_laysLoads wsX5_laysLoads rm_X5_laysLoads (va_Pc [.ref (g b)] (PRE D cT sz (List.flatten [wM cT g b u_mo]))) (QV D (List.flatten [wM cT g b o]) (va_A (List.flatten [wM cT g b u_mo]) sz)) 0 0 (va_A (List.flatten [wM cT g b u_mo]) sz) := by
  refine Met.ofW (cc := cX5_laysLoads) (maxL := 4) (ret := none) (by decide) rfl ?_
  intro p e s m args below meth c s₁ B0 hml hv
  obtain ⟨hav, hsz, hP, hK, hD, hN, hZ⟩ := hv
  have hx := B0.exec
  have hb := B0.bytes
  have hr := B0.returns
  have hts := atoms_spec (ws := wsX5_laysLoads) B0.pre
  have hown : s.vm.findClass RX5 = some m.cls := findClass_of_methodNamed B0.named
  have hlocks := B0.notSynchronized
  subst hsz
  have hD := hD.self (sz := s.heap.size)
  have hA : ∀ q : Nat, s.heap.size ≤ q → va_A (List.flatten [wM cT g b u_mo]) s.heap.size q := fun q h => Or.inr h
  generalize va_A (List.flatten [wM cT g b u_mo]) s.heap.size = A at hD hZ hA ⊢
  have hS : va_S A s.heap s.heap [] := va_S.rf
  have hl := lv_entry ([.ref (g b)]) (n := 4) (Nat.le_of_ble_eq_true rfl)
  rw [hav]
  rw [lg_entry_eq]
  generalize (lg_sl ([.ref (g b)]) ++ List.replicate (4 - (lg_sl ([.ref (g b)])).length) Slot.unset).toArray = ls at hl ⊢
  have hl : lv_has ls 4 [(0, .ref (g b))] := hl
  rw [← hav]
  generalize hQ : MQ below _ _ _ _ _ _ = Q
  show W p l e rm_X5_laysLoads s m args below meth c s.heap [] 0 0 Q (F0 m 0 ls [])
  unfold f_X5_laysLoads at hf
  refine lv_iconst (v := 0) hx hb dX5_laysLoads_0 (by decide) ?_
  refine lv_istore_n (lv' := [(1, .int ((0 : Int32))), (0, .ref (g b))]) hx hb dX5_laysLoads_1 rfl hl (by decide) rfl (fun ls hl => ?_)
  obtain ⟨z133, hz133, hf⟩ := bd_i hf
  have hL2 : ∀ (n : Nat) (v130 : Int32) (u131 : TM) (z132 : TM), lf_X5_laysLoads_2 fu  n v130 u131 = some z132 → ∀ (H : Heap) (locs : List Loc) (ls : Array Slot), va_P D vwCl (List.flatten [wM cT g b u131]) H → va_S A s.heap H locs → lv_has ls 4 [(0, .ref (g b)), (1, .int v130)] → (∀ (H : Heap) (locs : List Loc) (ls : Array Slot), va_P D vwCl (List.flatten [wM cT g b z132]) H → va_S A s.heap H locs → lv_has ls 4 [(0, .ref (g b))] → W p l e rm_X5_laysLoads s m args below meth c H locs 0 0 Q (F0 m 37 ls [])) → W p l e rm_X5_laysLoads s m args below meth c H locs 0 0 Q (F0 m 2 ls []) := by
    refine lq_2_ind (F := lb_X5_laysLoads_2 fu ) (fun rec ih v130 u131 z132 hf H locs ls hP hS hl kx => ?_)
    unfold lb_X5_laysLoads_2 at hf
    refine lv_iload_n hx hb dX5_laysLoads_2 rfl (lv_at hl 1 rfl) ?_
    refine lv_aload_n hx hb dX5_laysLoads_3 rfl (lv_at hl 0 rfl) ?_
    refine va_get (ci := 5) (v := .ref (g (b + 1))) (C := RX5) (T := TX5) (N := 12) hx hb hts iw_X5_laysLoads_X5 hown hK hP 0 rfl rfl 0 (by decide) (hts (.fieldLink RX5 7 "BallastTrackModel" "s" "[I") (List.mem_of_getElem? (i := 1) rfl)) (fun _ h9 => h9) rfl dX5_laysLoads_4 ?_
    refine lv_iconst (v := 0) hx hb dX5_laysLoads_7 (by decide) ?_
    obtain ⟨hi134, hf⟩ := ix_i hf
    refine va_iald hx hb hK hP 1 0 rfl rfl hi134 dX5_laysLoads_8 ?_
    refine lv_topi (fun x135 ex135 => ?_)
    replace hf := nm_i hf ex135
    refine lv_icmp_ge (tgt := 37) hx hb dX5_laysLoads_9 (by decide) (fun c136 => ?_) (fun c136 => ?_)
    · replace hf := it_t hf c136
      obtain rfl := Option.some.inj hf
      exact kx _ _ _ hP hS (lv_sub hl [0] rfl)
    · replace hf := it_f hf c136
      refine lv_aload_n hx hb dX5_laysLoads_12 rfl (lv_at hl 0 rfl) ?_
      refine va_get (ci := 5) (v := .ref (g (b + 7))) (C := RX5) (T := TX5) (N := 12) hx hb hts iw_X5_laysLoads_X5 hown hK hP 0 rfl rfl 9 (by decide) (hts (.fieldLink RX5 29 "BallastTrackModel" "load" "[I") (List.mem_of_getElem? (i := 2) rfl)) (fun _ h9 => h9) rfl dX5_laysLoads_13 ?_
      refine lv_iload_n hx hb dX5_laysLoads_16 rfl (lv_at hl 1 rfl) ?_
      refine lv_aload_n hx hb dX5_laysLoads_17 rfl (lv_at hl 0 rfl) ?_
      refine lv_iload_n hx hb dX5_laysLoads_18 rfl (lv_at hl 1 rfl) ?_
      obtain ⟨o137, ho137, hf⟩ := bd_i hf
      refine cl_i [0] [] [wM cT g b u131] hP (va_D_adr hD rfl) hA hS (va_runV (As := [.int v130]) (rest := [.int v130, .ref (g (b + 7))]) ⟨hx, hb, hml, hown, hts⟩ (c_X5_hangs l D cT g b fu u131 v130 o137 ho137 _) (cwV 1 hts gX5_laysLoads_X5_hangs rfl rfl rfl (by decide +kernel) ⟨Nat.le_of_ble_eq_true rfl, Nat.le_of_ble_eq_true rfl⟩) ⟨PRE_blind, va_recv hK hP (ci := 5) (q0 := 0) rfl rfl, PRE_ok [0] (by decide) hP (va_D_adr hD rfl) hA hS hK hN hZ⟩ rfl rfl hl.1 rfl (lv_room (Nat.le_of_ble_eq_true rfl)) dX5_laysLoads_19 ⟨Nat.le_of_ble_eq_true rfl, Nat.le_of_ble_eq_true rfl⟩) rfl 1 rfl (by decide) (by decide) (fun H locs hP hS => ?_)
      obtain ⟨K30_143, eK30_143, hf⟩ := jn_i hf
      have hK30_143 : ∀ (x139 : Int32) (H : Heap) (locs : List Loc) (ls : Array Slot), K30_143 x139 = some z132 → va_P D vwCl (List.flatten [wM cT g b u131]) H → va_S A s.heap H locs → lv_has ls 4 [(0, .ref (g b)), (1, .int v130)] → W p l e rm_X5_laysLoads s m args below meth c H locs 0 0 Q (F0 m 30 ls [.int x139, .int v130, .ref (g (b + 7))]) := by
        intro x139 H locs ls hf hP hS hl
        rw [eK30_143] at hf
        obtain ⟨hi144, hf⟩ := ix_i hf
        refine va_iast hx hb hK hP (va_D_adr hD rfl) hS 7 0 rfl rfl hi144 dX5_laysLoads_30 (fun H locs hP _ hS => ?_)
        obtain ⟨u145, eu145⟩ : ∃ z : TM, z = M_lo_ u131 (upd (M_lo u131) v130.toNatClampNeg x139) := ⟨_, rfl⟩
        replace hf := nm_i hf eu145
        have hP : va_P D vwCl (List.flatten [wM cT g b u145]) H := by rw [eu145]; exact hP
        obtain ⟨x146, ex146⟩ : ∃ z : Int32, z = v130 + (1 : Int32) := ⟨_, rfl⟩
        replace hf := nm_i hf ex146
        refine lv_iinc (v := x146) (lv' := [(1, .int x146), (0, .ref (g b))]) hx hb dX5_laysLoads_31 hl (k := 1) rfl (by rw [ex146]; rfl) (by decide) rfl (fun ls hl => ?_)
        refine lv_goto (tgt := 2) hx hb dX5_laysLoads_34 (by decide) ?_
        exact ih _ _ _ hf _ _ _ hP hS (lv_sub hl [1, 0] rfl) kx
      clear eK30_143
      refine lv_if_eq (tgt := 29) hx hb dX5_laysLoads_22 (by decide) (fun c147 => ?_) (fun c147 => ?_)
      · replace hf := it_t hf c147
        refine lv_iconst (v := 2) hx hb dX5_laysLoads_29 (by decide) ?_
        exact hK30_143 _ _ _ _ hf hP hS (lv_sub hl [0, 1] rfl)
      · replace hf := it_f hf c147
        refine lv_iconst (v := 0) hx hb dX5_laysLoads_25 (by decide) ?_
        refine lv_goto (tgt := 30) hx hb dX5_laysLoads_26 (by decide) ?_
        exact hK30_143 _ _ _ _ hf hP hS (lv_sub hl [0, 1] rfl)
  refine hL2 fu _ _ _ hz133 _ _ _ hP hS (lv_sub hl [1, 0] rfl) (fun H locs ls hP hS hl => ?_)
  refine lv_iconst (v := 0) hx hb dX5_laysLoads_37 (by decide) ?_
  refine lv_istore_n (lv' := [(1, .int ((0 : Int32))), (0, .ref (g b))]) hx hb dX5_laysLoads_38 rfl hl (by decide) rfl (fun ls hl => ?_)
  obtain ⟨z244, hz244, hf⟩ := bd_i hf
  have hL39 : ∀ (n : Nat) (v241 : Int32) (u242 : TM) (z243 : TM), lf_X5_laysLoads_39 fu  n v241 u242 = some z243 → ∀ (H : Heap) (locs : List Loc) (ls : Array Slot), va_P D vwCl (List.flatten [wM cT g b u242]) H → va_S A s.heap H locs → lv_has ls 4 [(0, .ref (g b)), (1, .int v241)] → (∀ (H : Heap) (locs : List Loc) (ls : Array Slot), va_P D vwCl (List.flatten [wM cT g b z243]) H → va_S A s.heap H locs → lv_has ls 4 [] → W p l e rm_X5_laysLoads s m args below meth c H locs 0 0 Q (F0 m 113 ls [])) → W p l e rm_X5_laysLoads s m args below meth c H locs 0 0 Q (F0 m 39 ls []) := by
    refine lq_2_ind (F := lb_X5_laysLoads_39 fu ) (fun rec ih v241 u242 z243 hf H locs ls hP hS hl kx => ?_)
    unfold lb_X5_laysLoads_39 at hf
    refine lv_iload_n hx hb dX5_laysLoads_39 rfl (lv_at hl 1 rfl) ?_
    refine lv_aload_n hx hb dX5_laysLoads_40 rfl (lv_at hl 0 rfl) ?_
    refine va_get (ci := 5) (v := .ref (g (b + 1))) (C := RX5) (T := TX5) (N := 12) hx hb hts iw_X5_laysLoads_X5 hown hK hP 0 rfl rfl 0 (by decide) (hts (.fieldLink RX5 7 "BallastTrackModel" "s" "[I") (List.mem_of_getElem? (i := 1) rfl)) (fun _ h9 => h9) rfl dX5_laysLoads_41 ?_
    refine lv_iconst (v := 0) hx hb dX5_laysLoads_44 (by decide) ?_
    obtain ⟨hi245, hf⟩ := ix_i hf
    refine va_iald hx hb hK hP 1 0 rfl rfl hi245 dX5_laysLoads_45 ?_
    refine lv_topi (fun x246 ex246 => ?_)
    replace hf := nm_i hf ex246
    refine lv_icmp_ge (tgt := 113) hx hb dX5_laysLoads_46 (by decide) (fun c247 => ?_) (fun c247 => ?_)
    · replace hf := it_t hf c247
      obtain rfl := Option.some.inj hf
      exact kx _ _ _ hP hS (lv_sub hl [] rfl)
    · replace hf := it_f hf c247
      refine lv_aload_n hx hb dX5_laysLoads_49 rfl (lv_at hl 0 rfl) ?_
      refine lv_iload_n hx hb dX5_laysLoads_50 rfl (lv_at hl 1 rfl) ?_
      obtain ⟨o248, ho248, hf⟩ := bd_i hf
      refine cl_i [0] [] [wM cT g b u242] hP (va_D_adr hD rfl) hA hS (va_runV (As := [.int v241]) (rest := []) ⟨hx, hb, hml, hown, hts⟩ (c_X5_hangs l D cT g b fu u242 v241 o248 ho248 _) (cwV 1 hts gX5_laysLoads_X5_hangs rfl rfl rfl (by decide +kernel) ⟨Nat.le_of_ble_eq_true rfl, Nat.le_of_ble_eq_true rfl⟩) ⟨PRE_blind, va_recv hK hP (ci := 5) (q0 := 0) rfl rfl, PRE_ok [0] (by decide) hP (va_D_adr hD rfl) hA hS hK hN hZ⟩ rfl rfl hl.1 rfl (lv_room (Nat.le_of_ble_eq_true rfl)) dX5_laysLoads_51 ⟨Nat.le_of_ble_eq_true rfl, Nat.le_of_ble_eq_true rfl⟩) rfl 1 rfl (by decide) (by decide) (fun H locs hP hS => ?_)
      obtain ⟨K107_293, eK107_293, hf⟩ := jn_i hf
      have hK107_293 : ∀ (u291 : TM) (H : Heap) (locs : List Loc) (ls : Array Slot), K107_293 u291 = some z243 → va_P D vwCl (List.flatten [wM cT g b u291]) H → va_S A s.heap H locs → lv_has ls 4 [(0, .ref (g b)), (1, .int v241)] → W p l e rm_X5_laysLoads s m args below meth c H locs 0 0 Q (F0 m 107 ls []) := by
        intro u291 H locs ls hf hP hS hl
        rw [eK107_293] at hf
        obtain ⟨x294, ex294⟩ : ∃ z : Int32, z = v241 + (1 : Int32) := ⟨_, rfl⟩
        replace hf := nm_i hf ex294
        refine lv_iinc (v := x294) (lv' := [(1, .int x294), (0, .ref (g b))]) hx hb dX5_laysLoads_107 hl (k := 1) rfl (by rw [ex294]; rfl) (by decide) rfl (fun ls hl => ?_)
        refine lv_goto (tgt := 39) hx hb dX5_laysLoads_110 (by decide) ?_
        exact ih _ _ _ hf _ _ _ hP hS (lv_sub hl [1, 0] rfl) kx
      clear eK107_293
      refine lv_if_eq (tgt := 107) hx hb dX5_laysLoads_54 (by decide) (fun c295 => ?_) (fun c295 => ?_)
      · replace hf := it_t hf c295
        exact hK107_293 _ _ _ _ hf hP hS (lv_sub hl [0, 1] rfl)
      · replace hf := it_f hf c295
        refine lv_aload_n hx hb dX5_laysLoads_57 rfl (lv_at hl 0 rfl) ?_
        refine lv_iload_n hx hb dX5_laysLoads_58 rfl (lv_at hl 1 rfl) ?_
        refine lv_iconst (v := -1) hx hb dX5_laysLoads_59 (by decide) ?_
        obtain ⟨o296, ho296, hf⟩ := bd_i hf
        refine cl_i [0] [] [wM cT g b u242] hP (va_D_adr hD rfl) hA hS (va_runV (As := [.int v241, .int ((-1 : Int32))]) (rest := []) ⟨hx, hb, hml, hown, hts⟩ (c_X5_nearest l D cT g b fu u242 v241 ((-1 : Int32)) o296 ho296 _) (cwV 2 hts gX5_laysLoads_X5_nearest rfl rfl rfl (by decide +kernel) ⟨Nat.le_of_ble_eq_true rfl, Nat.le_of_ble_eq_true rfl⟩) ⟨PRE_blind, va_recv hK hP (ci := 5) (q0 := 0) rfl rfl, PRE_ok [0] (by decide) hP (va_D_adr hD rfl) hA hS hK hN hZ⟩ rfl rfl hl.1 rfl (lv_room (Nat.le_of_ble_eq_true rfl)) dX5_laysLoads_60 ⟨Nat.le_of_ble_eq_true rfl, Nat.le_of_ble_eq_true rfl⟩) rfl 1 rfl (by decide) (by decide) (fun H locs hP hS => ?_)
        refine lv_istore_n (lv' := [(2, .int o296), (0, .ref (g b)), (1, .int v241)]) hx hb dX5_laysLoads_63 rfl hl (by decide) rfl (fun ls hl => ?_)
        refine lv_aload_n hx hb dX5_laysLoads_64 rfl (lv_at hl 1 rfl) ?_
        refine lv_iload_n hx hb dX5_laysLoads_65 rfl (lv_at hl 2 rfl) ?_
        refine lv_iconst (v := 1) hx hb dX5_laysLoads_66 (by decide) ?_
        obtain ⟨o297, ho297, hf⟩ := bd_i hf
        refine cl_i [0] [] [wM cT g b u242] hP (va_D_adr hD rfl) hA hS (va_runV (As := [.int v241, .int ((1 : Int32))]) (rest := []) ⟨hx, hb, hml, hown, hts⟩ (c_X5_nearest l D cT g b fu u242 v241 ((1 : Int32)) o297 ho297 _) (cwV 2 hts gX5_laysLoads_X5_nearest rfl rfl rfl (by decide +kernel) ⟨Nat.le_of_ble_eq_true rfl, Nat.le_of_ble_eq_true rfl⟩) ⟨PRE_blind, va_recv hK hP (ci := 5) (q0 := 0) rfl rfl, PRE_ok [0] (by decide) hP (va_D_adr hD rfl) hA hS hK hN hZ⟩ rfl rfl hl.1 rfl (lv_room (Nat.le_of_ble_eq_true rfl)) dX5_laysLoads_67 ⟨Nat.le_of_ble_eq_true rfl, Nat.le_of_ble_eq_true rfl⟩) rfl 1 rfl (by decide) (by decide) (fun H locs hP hS => ?_)
        refine lv_istore_n (lv' := [(3, .int o297), (2, .int o296), (0, .ref (g b)), (1, .int v241)]) hx hb dX5_laysLoads_70 rfl hl (by decide) rfl (fun ls hl => ?_)
        refine lv_aload_n hx hb dX5_laysLoads_71 rfl (lv_at hl 2 rfl) ?_
        refine va_get (ci := 5) (v := .ref (g (b + 7))) (C := RX5) (T := TX5) (N := 12) hx hb hts iw_X5_laysLoads_X5 hown hK hP 0 rfl rfl 9 (by decide) (hts (.fieldLink RX5 29 "BallastTrackModel" "load" "[I") (List.mem_of_getElem? (i := 2) rfl)) (fun _ h9 => h9) rfl dX5_laysLoads_72 ?_
        refine lv_iload_n hx hb dX5_laysLoads_75 rfl (lv_at hl 1 rfl) ?_
        obtain ⟨K84_318, eK84_318, hf⟩ := jn_i hf
        have hK84_318 : ∀ (x299 : Int32) (H : Heap) (locs : List Loc) (ls : Array Slot), K84_318 x299 = some z243 → va_P D vwCl (List.flatten [wM cT g b u242]) H → va_S A s.heap H locs → lv_has ls 4 [(0, .ref (g b)), (1, .int v241), (2, .int o296), (3, .int o297)] → W p l e rm_X5_laysLoads s m args below meth c H locs 0 0 Q (F0 m 84 ls [.int x299, .ref (g (b + 7))]) := by
          intro x299 H locs ls hf hP hS hl
          rw [eK84_318] at hf
          refine lv_dup2_11 hx hb dX5_laysLoads_84 rfl rfl ?_
          obtain ⟨hi319, hf⟩ := ix_i hf
          refine va_iald hx hb hK hP 7 0 rfl rfl hi319 dX5_laysLoads_85 ?_
          refine lv_topi (fun x320 ex320 => ?_)
          replace hf := nm_i hf ex320
          refine lv_iconst (v := 1) hx hb dX5_laysLoads_86 (by decide) ?_
          refine lv_iadd hx hb dX5_laysLoads_87 ?_
          refine lv_topi (fun x321 ex321 => ?_)
          replace hf := nm_i hf ex321
          obtain ⟨hi322, hf⟩ := ix_i hf
          refine va_iast hx hb hK hP (va_D_adr hD rfl) hS 7 0 rfl rfl hi322 dX5_laysLoads_88 (fun H locs hP _ hS => ?_)
          obtain ⟨u323, eu323⟩ : ∃ z : TM, z = M_lo_ u242 (upd (M_lo u242) x299.toNatClampNeg x321) := ⟨_, rfl⟩
          replace hf := nm_i hf eu323
          have hP : va_P D vwCl (List.flatten [wM cT g b u323]) H := by rw [eu323]; exact hP
          refine lv_aload_n hx hb dX5_laysLoads_89 rfl (lv_at hl 0 rfl) ?_
          refine va_get (ci := 5) (v := .ref (g (b + 7))) (C := RX5) (T := TX5) (N := 12) hx hb hts iw_X5_laysLoads_X5 hown hK hP 0 rfl rfl 9 (by decide) (hts (.fieldLink RX5 29 "BallastTrackModel" "load" "[I") (List.mem_of_getElem? (i := 2) rfl)) (fun _ h9 => h9) rfl dX5_laysLoads_90 ?_
          refine lv_iload_n hx hb dX5_laysLoads_93 rfl (lv_at hl 3 rfl) ?_
          obtain ⟨K102_331, eK102_331, hf⟩ := jn_i hf
          have hK102_331 : ∀ (x325 : Int32) (H : Heap) (locs : List Loc) (ls : Array Slot), K102_331 x325 = some z243 → va_P D vwCl (List.flatten [wM cT g b u323]) H → va_S A s.heap H locs → lv_has ls 4 [(0, .ref (g b)), (1, .int v241)] → W p l e rm_X5_laysLoads s m args below meth c H locs 0 0 Q (F0 m 102 ls [.int x325, .ref (g (b + 7))]) := by
            intro x325 H locs ls hf hP hS hl
            rw [eK102_331] at hf
            refine lv_dup2_11 hx hb dX5_laysLoads_102 rfl rfl ?_
            obtain ⟨hi332, hf⟩ := ix_i hf
            refine va_iald hx hb hK hP 7 0 rfl rfl hi332 dX5_laysLoads_103 ?_
            refine lv_topi (fun x333 ex333 => ?_)
            replace hf := nm_i hf ex333
            refine lv_iconst (v := 1) hx hb dX5_laysLoads_104 (by decide) ?_
            refine lv_iadd hx hb dX5_laysLoads_105 ?_
            refine lv_topi (fun x334 ex334 => ?_)
            replace hf := nm_i hf ex334
            obtain ⟨hi335, hf⟩ := ix_i hf
            refine va_iast hx hb hK hP (va_D_adr hD rfl) hS 7 0 rfl rfl hi335 dX5_laysLoads_106 (fun H locs hP _ hS => ?_)
            obtain ⟨u336, eu336⟩ : ∃ z : TM, z = M_lo_ u323 (upd (M_lo u323) x325.toNatClampNeg x334) := ⟨_, rfl⟩
            replace hf := nm_i hf eu336
            have hP : va_P D vwCl (List.flatten [wM cT g b u336]) H := by rw [eu336]; exact hP
            exact hK107_293 _ _ _ _ hf hP hS (lv_sub hl [0, 1] rfl)
          clear eK102_331
          refine lv_if_ge (tgt := 101) hx hb dX5_laysLoads_94 (by decide) (fun c337 => ?_) (fun c337 => ?_)
          · replace hf := it_t hf c337
            refine lv_iload_n hx hb dX5_laysLoads_101 rfl (lv_at hl 3 rfl) ?_
            exact hK102_331 _ _ _ _ hf hP hS (lv_sub hl [0, 1] rfl)
          · replace hf := it_f hf c337
            refine lv_iload_n hx hb dX5_laysLoads_97 rfl (lv_at hl 2 rfl) ?_
            refine lv_goto (tgt := 102) hx hb dX5_laysLoads_98 (by decide) ?_
            exact hK102_331 _ _ _ _ hf hP hS (lv_sub hl [0, 1] rfl)
        clear eK84_318
        refine lv_if_ge (tgt := 83) hx hb dX5_laysLoads_76 (by decide) (fun c338 => ?_) (fun c338 => ?_)
        · replace hf := it_t hf c338
          refine lv_iload_n hx hb dX5_laysLoads_83 rfl (lv_at hl 1 rfl) ?_
          exact hK84_318 _ _ _ _ hf hP hS (lv_sub hl [2, 3, 1, 0] rfl)
        · replace hf := it_f hf c338
          refine lv_iload_n hx hb dX5_laysLoads_79 rfl (lv_at hl 0 rfl) ?_
          refine lv_goto (tgt := 84) hx hb dX5_laysLoads_80 (by decide) ?_
          exact hK84_318 _ _ _ _ hf hP hS (lv_sub hl [2, 3, 1, 0] rfl)
  refine hL39 fu _ _ _ hz244 _ _ _ hP hS (lv_sub hl [1, 0] rfl) (fun H locs ls hP hS hl => ?_)
  obtain rfl := Option.some.inj hf
  subst hQ
  exact en_v hx hb hr hP hS hlocks dX5_laysLoads_113
theorem iw_X5_begin_X5 : ∀ w ∈ u_ws RX5 TX5 12, w ∈ wsX5_begin := by decide +kernel
def lb_X5_begin_35 (fu : Nat)  (rec : Int32 → TM → Option (TM)) (v30 : Int32) (u31 : TM) : Option (TM) :=
if (281 : Int32) ≤ v30 then (
some (u31)
)
else (
ix v30 281 <|
nm (M_ss_ u31 (upd (M_ss u31) v30.toNatClampNeg ((0 : Int32)))) fun (u36 : TM) =>
nm (v30 + (1 : Int32)) fun (x37 : Int32) =>
rec x37 u36
)

def lf_X5_begin_35 (fu : Nat)  : Nat → Int32 → TM → Option (TM) := lq_2 (lb_X5_begin_35 fu )
def f_X5_begin (fu : Nat) (u_mo : TM) (p0 : Int32) : Option (Int32 × TM) :=
bd (f_X5_in fu  p0 ((10 : Int32)) ((60 : Int32))) fun (o17 : Bool) =>
if ¬ bI o17 = 0 then (
bd (f_X5_notes fu u_mo ) fun (o19 : TM) =>
ix ((0 : Int32)) 281 <|
nm ((M_ss o19) ((0 : Int32)).toNatClampNeg) fun (x21 : Int32) =>
ix ((0 : Int32)) 281 <|
nm (M_ss_ o19 (upd (M_ss o19) ((0 : Int32)).toNatClampNeg p0)) fun (u23 : TM) =>
bd (lf_X5_begin_35 fu  fu ((9 : Int32)) u23) fun (z33 : TM) =>
some (x21, z33)
)
else (
some ((-100001 : Int32), u_mo)
)

abbrev rm_X5_begin : Room := { frames := 1, cells := 0, slots := 0, locals := 22 }
set_option maxHeartbeats 4000000 in
set_option maxRecDepth 100000 in
theorem c_X5_begin (l : Launch) (D : va_G) (cT : Nat → ClassId) (g : Nat → Nat) (b : Nat) (fu : Nat) (u_mo : TM) (p0 : Int32) (o : Int32 × TM) (hf : f_X5_begin fu u_mo p0 = some o) (sz : Nat) : Met l yX5_begin wsX5_begin rm_X5_begin (va_Pc [.ref (g b), .int p0] (PRE D cT sz (List.flatten [wM cT g b u_mo]))) (QI D o.1 (List.flatten [wM cT g b o.2]) (va_A (List.flatten [wM cT g b u_mo]) sz)) 0 0 (va_A (List.flatten [wM cT g b u_mo]) sz) := by
  refine Met.ofW (cc := cX5_begin) (maxL := 4) (ret := (some .int)) (by decide) rfl ?_
  intro p e s m args below meth c s₁ B0 hml hv
  obtain ⟨hav, hsz, hP, hK, hD, hN, hZ⟩ := hv
  have hx := B0.exec
  have hb := B0.bytes
  have hr := B0.returns
  have hts := atoms_spec (ws := wsX5_begin) B0.pre
  have hown : s.vm.findClass RX5 = some m.cls := findClass_of_methodNamed B0.named
  have hlocks := B0.notSynchronized
  subst hsz
  have hD := hD.self (sz := s.heap.size)
  have hA : ∀ q : Nat, s.heap.size ≤ q → va_A (List.flatten [wM cT g b u_mo]) s.heap.size q := fun q h => Or.inr h
  generalize va_A (List.flatten [wM cT g b u_mo]) s.heap.size = A at hD hZ hA ⊢
  have hS : va_S A s.heap s.heap [] := va_S.rf
  have hl := lv_entry ([.ref (g b), .int p0]) (n := 4) (Nat.le_of_ble_eq_true rfl)
  rw [hav]
  rw [lg_entry_eq]
  generalize (lg_sl ([.ref (g b), .int p0]) ++ List.replicate (4 - (lg_sl ([.ref (g b), .int p0])).length) Slot.unset).toArray = ls at hl ⊢
  have hl : lv_has ls 4 [(0, .ref (g b)), (1, .int p0)] := hl
  rw [← hav]
  generalize hQ : MQ below _ _ _ _ _ _ = Q
  show W p l e rm_X5_begin s m args below meth c s.heap [] 0 0 Q (F0 m 0 ls [])
  unfold f_X5_begin at hf
  refine lv_iload_n hx hb dX5_begin_0 rfl (lv_at hl 1 rfl) ?_
  refine lv_bipush (v := 10) hx hb dX5_begin_1 (by decide) ?_
  refine lv_bipush (v := 60) hx hb dX5_begin_3 (by decide) ?_
  obtain ⟨o17, ho17, hf⟩ := bd_i hf
  refine cl_i [] [0] [wM cT g b u_mo] hP (va_D_adr hD rfl) hA hS (va_runS (As := [.int p0, .int ((10 : Int32)), .int ((60 : Int32))]) (rest := []) ⟨hx, hb, hml, hown, hts⟩ (c_X5_in l D cT g  fu  p0 ((10 : Int32)) ((60 : Int32)) o17 ho17 _) (va_cwS 3 hts gX5_begin_X5_in rfl rfl rfl (by decide +kernel) ⟨Nat.le_of_ble_eq_true rfl, Nat.le_of_ble_eq_true rfl⟩) ⟨PRE_blind, PRE_ok [] (by decide) hP (va_D_adr hD rfl) hA hS hK hN hZ⟩ rfl rfl hl.1 rfl (lv_room (Nat.le_of_ble_eq_true rfl)) dX5_begin_5 ⟨Nat.le_of_ble_eq_true rfl, Nat.le_of_ble_eq_true rfl⟩) rfl 1 rfl (by decide) (by decide) (fun H locs hP hS => ?_)
  refine lv_if_ne (tgt := 14) hx hb dX5_begin_8 (by decide) (fun c18 => ?_) (fun c18 => ?_)
  · replace hf := it_t hf c18
    refine lv_aload_n hx hb dX5_begin_14 rfl (lv_at hl 0 rfl) ?_
    obtain ⟨o19, ho19, hf⟩ := bd_i hf
    refine cl_v [0] [] [wM cT g b o19] hP (va_D_adr hD rfl) hA hS (va_runV (As := []) (rest := []) ⟨hx, hb, hml, hown, hts⟩ (c_X5_notes l D cT g b fu u_mo  o19 ho19 _) (cwV 0 hts gX5_begin_X5_notes rfl rfl rfl (by decide +kernel) ⟨Nat.le_of_ble_eq_true rfl, Nat.le_of_ble_eq_true rfl⟩) ⟨PRE_blind, va_recv hK hP (ci := 5) (q0 := 0) rfl rfl, PRE_ok [0] (by decide) hP (va_D_adr hD rfl) hA hS hK hN hZ⟩ rfl rfl hl.1 rfl (lv_room (Nat.le_of_ble_eq_true rfl)) dX5_begin_15 ⟨Nat.le_of_ble_eq_true rfl, Nat.le_of_ble_eq_true rfl⟩) rfl 1 rfl (by decide) (by decide) (fun H locs hP hS => ?_)
    refine lv_aload_n hx hb dX5_begin_18 rfl (lv_at hl 0 rfl) ?_
    refine va_get (ci := 5) (v := .ref (g (b + 1))) (C := RX5) (T := TX5) (N := 12) hx hb hts iw_X5_begin_X5 hown hK hP 0 rfl rfl 0 (by decide) (hts (.fieldLink RX5 7 "BallastTrackModel" "s" "[I") (List.mem_of_getElem? (i := 2) rfl)) (fun _ h9 => h9) rfl dX5_begin_19 ?_
    refine lv_iconst (v := 0) hx hb dX5_begin_22 (by decide) ?_
    obtain ⟨hi20, hf⟩ := ix_i hf
    refine va_iald hx hb hK hP 1 0 rfl rfl hi20 dX5_begin_23 ?_
    refine lv_topi (fun x21 ex21 => ?_)
    replace hf := nm_i hf ex21
    refine lv_istore_n (lv' := [(2, .int x21), (0, .ref (g b)), (1, .int p0)]) hx hb dX5_begin_24 rfl hl (by decide) rfl (fun ls hl => ?_)
    refine lv_aload_n hx hb dX5_begin_25 rfl (lv_at hl 1 rfl) ?_
    refine va_get (ci := 5) (v := .ref (g (b + 1))) (C := RX5) (T := TX5) (N := 12) hx hb hts iw_X5_begin_X5 hown hK hP 0 rfl rfl 0 (by decide) (hts (.fieldLink RX5 7 "BallastTrackModel" "s" "[I") (List.mem_of_getElem? (i := 2) rfl)) (fun _ h9 => h9) rfl dX5_begin_26 ?_
    refine lv_iconst (v := 0) hx hb dX5_begin_29 (by decide) ?_
    refine lv_iload_n hx hb dX5_begin_30 rfl (lv_at hl 2 rfl) ?_
    obtain ⟨hi22, hf⟩ := ix_i hf
    refine va_iast hx hb hK hP (va_D_adr hD rfl) hS 1 0 rfl rfl hi22 dX5_begin_31 (fun H locs hP _ hS => ?_)
    obtain ⟨u23, eu23⟩ : ∃ z : TM, z = M_ss_ o19 (upd (M_ss o19) ((0 : Int32)).toNatClampNeg p0) := ⟨_, rfl⟩
    replace hf := nm_i hf eu23
    have hP : va_P D vwCl (List.flatten [wM cT g b u23]) H := by rw [eu23]; exact hP
    refine lv_bipush (v := 9) hx hb dX5_begin_32 (by decide) ?_
    refine lv_istore_n (lv' := [(3, .int ((9 : Int32))), (2, .int x21), (0, .ref (g b)), (1, .int p0)]) hx hb dX5_begin_34 rfl hl (by decide) rfl (fun ls hl => ?_)
    obtain ⟨z33, hz33, hf⟩ := bd_i hf
    have hL35 : ∀ (n : Nat) (v30 : Int32) (u31 : TM) (z32 : TM), lf_X5_begin_35 fu  n v30 u31 = some z32 → ∀ (H : Heap) (locs : List Loc) (ls : Array Slot), va_P D vwCl (List.flatten [wM cT g b u31]) H → va_S A s.heap H locs → lv_has ls 4 [(0, .ref (g b)), (2, .int x21), (3, .int v30)] → (∀ (H : Heap) (locs : List Loc) (ls : Array Slot), va_P D vwCl (List.flatten [wM cT g b z32]) H → va_S A s.heap H locs → lv_has ls 4 [(2, .int x21)] → W p l e rm_X5_begin s m args below meth c H locs 0 0 Q (F0 m 55 ls [])) → W p l e rm_X5_begin s m args below meth c H locs 0 0 Q (F0 m 35 ls []) := by
      refine lq_2_ind (F := lb_X5_begin_35 fu ) (fun rec ih v30 u31 z32 hf H locs ls hP hS hl kx => ?_)
      unfold lb_X5_begin_35 at hf
      refine lv_iload_n hx hb dX5_begin_35 rfl (lv_at hl 2 rfl) ?_
      refine lv_sipush (v := 281) hx hb dX5_begin_36 (by decide) ?_
      refine lv_icmp_ge (tgt := 55) hx hb dX5_begin_39 (by decide) (fun c34 => ?_) (fun c34 => ?_)
      · replace hf := it_t hf c34
        obtain rfl := Option.some.inj hf
        exact kx _ _ _ hP hS (lv_sub hl [1] rfl)
      · replace hf := it_f hf c34
        refine lv_aload_n hx hb dX5_begin_42 rfl (lv_at hl 0 rfl) ?_
        refine va_get (ci := 5) (v := .ref (g (b + 1))) (C := RX5) (T := TX5) (N := 12) hx hb hts iw_X5_begin_X5 hown hK hP 0 rfl rfl 0 (by decide) (hts (.fieldLink RX5 7 "BallastTrackModel" "s" "[I") (List.mem_of_getElem? (i := 2) rfl)) (fun _ h9 => h9) rfl dX5_begin_43 ?_
        refine lv_iload_n hx hb dX5_begin_46 rfl (lv_at hl 2 rfl) ?_
        refine lv_iconst (v := 0) hx hb dX5_begin_47 (by decide) ?_
        obtain ⟨hi35, hf⟩ := ix_i hf
        refine va_iast hx hb hK hP (va_D_adr hD rfl) hS 1 0 rfl rfl hi35 dX5_begin_48 (fun H locs hP _ hS => ?_)
        obtain ⟨u36, eu36⟩ : ∃ z : TM, z = M_ss_ u31 (upd (M_ss u31) v30.toNatClampNeg ((0 : Int32))) := ⟨_, rfl⟩
        replace hf := nm_i hf eu36
        have hP : va_P D vwCl (List.flatten [wM cT g b u36]) H := by rw [eu36]; exact hP
        obtain ⟨x37, ex37⟩ : ∃ z : Int32, z = v30 + (1 : Int32) := ⟨_, rfl⟩
        replace hf := nm_i hf ex37
        refine lv_iinc (v := x37) (lv' := [(3, .int x37), (0, .ref (g b)), (2, .int x21)]) hx hb dX5_begin_49 hl (k := 2) rfl (by rw [ex37]; rfl) (by decide) rfl (fun ls hl => ?_)
        refine lv_goto (tgt := 35) hx hb dX5_begin_52 (by decide) ?_
        exact ih _ _ _ hf _ _ _ hP hS (lv_sub hl [1, 2, 0] rfl) kx
    refine hL35 fu _ _ _ hz33 _ _ _ hP hS (lv_sub hl [2, 1, 0] rfl) (fun H locs ls hP hS hl => ?_)
    refine lv_iload_n hx hb dX5_begin_55 rfl (lv_at hl 0 rfl) ?_
    obtain rfl := Option.some.inj hf
    subst hQ
    exact en_i hx hb hr hP hS hlocks dX5_begin_56
  · replace hf := it_f hf (not_not_intro c18)
    refine lv_ldc (v := -100001) hx hb hown (hts (.constant RX5 68 (-100001)) (List.mem_of_getElem? (i := 1) rfl)) dX5_begin_11 ?_
    obtain rfl := Option.some.inj hf
    subst hQ
    exact en_i hx hb hr hP hS hlocks dX5_begin_13
theorem iw_X5_isNumber_X5 : ∀ w ∈ u_ws RX5 TX5 12, w ∈ wsX5_isNumber := by decide +kernel
def f_X5_isNumber (fu : Nat) (u_mo : TM) (p0 : Int32) (p1 : Int32) : Option (Bool) :=
if p0 = (0 : Int32) then (
bd (f_X5_in fu  p1 ((1 : Int32)) ((20 : Int32))) fun (o30 : Bool) =>
some (o30)
)
else if p0 = (1 : Int32) then (
bd (f_X5_in fu  p1 ((0 : Int32)) ((99 : Int32))) fun (o32 : Bool) =>
some (o32)
)
else if p0 = (2 : Int32) then (
bd (f_X5_in fu  p1 ((1 : Int32)) ((5 : Int32))) fun (o34 : Bool) =>
some (o34)
)
else if p0 = (3 : Int32) then (
ix ((5 : Int32)) 281 <|
nm ((M_ss u_mo) ((5 : Int32)).toNatClampNeg) fun (x37 : Int32) =>
nm (x37 - (1 : Int32)) fun (x38 : Int32) =>
bd (f_X5_in fu  p1 ((1 : Int32)) x38) fun (o39 : Bool) =>
some (o39)
)
else if p0 = (4 : Int32) then (
ix ((4 : Int32)) 281 <|
nm ((M_ss u_mo) ((4 : Int32)).toNatClampNeg) fun (x42 : Int32) =>
nm (x42 + (1 : Int32)) fun (x43 : Int32) =>
ix ((6 : Int32)) 281 <|
nm ((M_ss u_mo) ((6 : Int32)).toNatClampNeg) fun (x45 : Int32) =>
nm (x45 - (1 : Int32)) fun (x46 : Int32) =>
bd (f_X5_in fu  p1 x43 x46) fun (o47 : Bool) =>
some (o47)
)
else if p0 = (5 : Int32) then (
ix ((5 : Int32)) 281 <|
nm ((M_ss u_mo) ((5 : Int32)).toNatClampNeg) fun (x50 : Int32) =>
nm (x50 + (1 : Int32)) fun (x51 : Int32) =>
bd (f_X5_in fu  p1 x51 ((2000 : Int32))) fun (o52 : Bool) =>
some (o52)
)
else if p0 = (6 : Int32) then (
bd (f_X5_in fu  p1 ((10 : Int32)) ((500 : Int32))) fun (o54 : Bool) =>
some (o54)
)
else if p0 = (7 : Int32) then (
bd (f_X5_in fu  p1 ((1 : Int32)) ((50 : Int32))) fun (o56 : Bool) =>
some (o56)
)
else (
some (false)
)

abbrev rm_X5_isNumber : Room := { frames := 1, cells := 0, slots := 0, locals := 22 }
set_option maxHeartbeats 4000000 in
set_option maxRecDepth 100000 in
theorem c_X5_isNumber (l : Launch) (D : va_G) (cT : Nat → ClassId) (g : Nat → Nat) (b : Nat) (fu : Nat) (u_mo : TM) (p0 : Int32) (p1 : Int32) (o : Bool) (hf : f_X5_isNumber fu u_mo p0 p1 = some o) (sz : Nat) : Met l yX5_isNumber wsX5_isNumber rm_X5_isNumber (va_Pc [.ref (g b), .int p0, .int p1] (PRE D cT sz (List.flatten [wM cT g b u_mo]))) (QI D (bI o) (List.flatten [wM cT g b u_mo]) (va_A (List.flatten [wM cT g b u_mo]) sz)) 0 0 (va_A (List.flatten [wM cT g b u_mo]) sz) := by
  refine Met.ofW (cc := cX5_isNumber) (maxL := 3) (ret := (some .boolean)) (by decide) rfl ?_
  intro p e s m args below meth c s₁ B0 hml hv
  obtain ⟨hav, hsz, hP, hK, hD, hN, hZ⟩ := hv
  have hx := B0.exec
  have hb := B0.bytes
  have hr := B0.returns
  have hts := atoms_spec (ws := wsX5_isNumber) B0.pre
  have hown : s.vm.findClass RX5 = some m.cls := findClass_of_methodNamed B0.named
  have hlocks := B0.notSynchronized
  subst hsz
  have hD := hD.self (sz := s.heap.size)
  have hA : ∀ q : Nat, s.heap.size ≤ q → va_A (List.flatten [wM cT g b u_mo]) s.heap.size q := fun q h => Or.inr h
  generalize va_A (List.flatten [wM cT g b u_mo]) s.heap.size = A at hD hZ hA ⊢
  have hS : va_S A s.heap s.heap [] := va_S.rf
  have hl := lv_entry ([.ref (g b), .int p0, .int p1]) (n := 3) (Nat.le_of_ble_eq_true rfl)
  rw [hav]
  rw [lg_entry_eq]
  generalize (lg_sl ([.ref (g b), .int p0, .int p1]) ++ List.replicate (3 - (lg_sl ([.ref (g b), .int p0, .int p1])).length) Slot.unset).toArray = ls at hl ⊢
  have hl : lv_has ls 3 [(0, .ref (g b)), (1, .int p0), (2, .int p1)] := hl
  rw [← hav]
  generalize hQ : MQ below _ _ _ _ _ _ = Q
  show W p l e rm_X5_isNumber s m args below meth c s.heap [] 0 0 Q (F0 m 0 ls [])
  unfold f_X5_isNumber at hf
  refine lv_iload_n hx hb dX5_isNumber_0 rfl (lv_at hl 1 rfl) ?_
  by_cases c29 : p0 = (0 : Int32)
  · replace hf := it_t hf c29
    refine lv_tableIn (off := 47) (tgt := 48) hx hb dX5_isNumber_1 (by rw [c29]; decide) (by rw [c29]; decide) (by rw [c29]; rfl) (by decide) ?_
    refine lv_iload_n hx hb dX5_isNumber_48 rfl (lv_at hl 2 rfl) ?_
    refine lv_iconst (v := 1) hx hb dX5_isNumber_49 (by decide) ?_
    refine lv_bipush (v := 20) hx hb dX5_isNumber_50 (by decide) ?_
    obtain ⟨o30, ho30, hf⟩ := bd_i hf
    refine cl_i [] [0] [wM cT g b u_mo] hP (va_D_adr hD rfl) hA hS (va_runS (As := [.int p1, .int ((1 : Int32)), .int ((20 : Int32))]) (rest := []) ⟨hx, hb, hml, hown, hts⟩ (c_X5_in l D cT g  fu  p1 ((1 : Int32)) ((20 : Int32)) o30 ho30 _) (va_cwS 3 hts gX5_isNumber_X5_in rfl rfl rfl (by decide +kernel) ⟨Nat.le_of_ble_eq_true rfl, Nat.le_of_ble_eq_true rfl⟩) ⟨PRE_blind, PRE_ok [] (by decide) hP (va_D_adr hD rfl) hA hS hK hN hZ⟩ rfl rfl hl.1 rfl (lv_room (Nat.le_of_ble_eq_true rfl)) dX5_isNumber_52 ⟨Nat.le_of_ble_eq_true rfl, Nat.le_of_ble_eq_true rfl⟩) rfl 1 rfl (by decide) (by decide) (fun H locs hP hS => ?_)
    obtain rfl := Option.some.inj hf
    subst hQ
    exact en_z hx hb hr hP hS hlocks dX5_isNumber_55
  replace hf := it_f hf c29
  by_cases c31 : p0 = (1 : Int32)
  · replace hf := it_t hf c31
    refine lv_tableIn (off := 55) (tgt := 56) hx hb dX5_isNumber_1 (by rw [c31]; decide) (by rw [c31]; decide) (by rw [c31]; rfl) (by decide) ?_
    refine lv_iload_n hx hb dX5_isNumber_56 rfl (lv_at hl 2 rfl) ?_
    refine lv_iconst (v := 0) hx hb dX5_isNumber_57 (by decide) ?_
    refine lv_bipush (v := 99) hx hb dX5_isNumber_58 (by decide) ?_
    obtain ⟨o32, ho32, hf⟩ := bd_i hf
    refine cl_i [] [0] [wM cT g b u_mo] hP (va_D_adr hD rfl) hA hS (va_runS (As := [.int p1, .int ((0 : Int32)), .int ((99 : Int32))]) (rest := []) ⟨hx, hb, hml, hown, hts⟩ (c_X5_in l D cT g  fu  p1 ((0 : Int32)) ((99 : Int32)) o32 ho32 _) (va_cwS 3 hts gX5_isNumber_X5_in rfl rfl rfl (by decide +kernel) ⟨Nat.le_of_ble_eq_true rfl, Nat.le_of_ble_eq_true rfl⟩) ⟨PRE_blind, PRE_ok [] (by decide) hP (va_D_adr hD rfl) hA hS hK hN hZ⟩ rfl rfl hl.1 rfl (lv_room (Nat.le_of_ble_eq_true rfl)) dX5_isNumber_60 ⟨Nat.le_of_ble_eq_true rfl, Nat.le_of_ble_eq_true rfl⟩) rfl 1 rfl (by decide) (by decide) (fun H locs hP hS => ?_)
    obtain rfl := Option.some.inj hf
    subst hQ
    exact en_z hx hb hr hP hS hlocks dX5_isNumber_63
  replace hf := it_f hf c31
  by_cases c33 : p0 = (2 : Int32)
  · replace hf := it_t hf c33
    refine lv_tableIn (off := 63) (tgt := 64) hx hb dX5_isNumber_1 (by rw [c33]; decide) (by rw [c33]; decide) (by rw [c33]; rfl) (by decide) ?_
    refine lv_iload_n hx hb dX5_isNumber_64 rfl (lv_at hl 2 rfl) ?_
    refine lv_iconst (v := 1) hx hb dX5_isNumber_65 (by decide) ?_
    refine lv_iconst (v := 5) hx hb dX5_isNumber_66 (by decide) ?_
    obtain ⟨o34, ho34, hf⟩ := bd_i hf
    refine cl_i [] [0] [wM cT g b u_mo] hP (va_D_adr hD rfl) hA hS (va_runS (As := [.int p1, .int ((1 : Int32)), .int ((5 : Int32))]) (rest := []) ⟨hx, hb, hml, hown, hts⟩ (c_X5_in l D cT g  fu  p1 ((1 : Int32)) ((5 : Int32)) o34 ho34 _) (va_cwS 3 hts gX5_isNumber_X5_in rfl rfl rfl (by decide +kernel) ⟨Nat.le_of_ble_eq_true rfl, Nat.le_of_ble_eq_true rfl⟩) ⟨PRE_blind, PRE_ok [] (by decide) hP (va_D_adr hD rfl) hA hS hK hN hZ⟩ rfl rfl hl.1 rfl (lv_room (Nat.le_of_ble_eq_true rfl)) dX5_isNumber_67 ⟨Nat.le_of_ble_eq_true rfl, Nat.le_of_ble_eq_true rfl⟩) rfl 1 rfl (by decide) (by decide) (fun H locs hP hS => ?_)
    obtain rfl := Option.some.inj hf
    subst hQ
    exact en_z hx hb hr hP hS hlocks dX5_isNumber_70
  replace hf := it_f hf c33
  by_cases c35 : p0 = (3 : Int32)
  · replace hf := it_t hf c35
    refine lv_tableIn (off := 70) (tgt := 71) hx hb dX5_isNumber_1 (by rw [c35]; decide) (by rw [c35]; decide) (by rw [c35]; rfl) (by decide) ?_
    refine lv_iload_n hx hb dX5_isNumber_71 rfl (lv_at hl 2 rfl) ?_
    refine lv_iconst (v := 1) hx hb dX5_isNumber_72 (by decide) ?_
    refine lv_aload_n hx hb dX5_isNumber_73 rfl (lv_at hl 0 rfl) ?_
    refine va_get (ci := 5) (v := .ref (g (b + 1))) (C := RX5) (T := TX5) (N := 12) hx hb hts iw_X5_isNumber_X5 hown hK hP 0 rfl rfl 0 (by decide) (hts (.fieldLink RX5 7 "BallastTrackModel" "s" "[I") (List.mem_of_getElem? (i := 1) rfl)) (fun _ h9 => h9) rfl dX5_isNumber_74 ?_
    refine lv_iconst (v := 5) hx hb dX5_isNumber_77 (by decide) ?_
    obtain ⟨hi36, hf⟩ := ix_i hf
    refine va_iald hx hb hK hP 1 0 rfl rfl hi36 dX5_isNumber_78 ?_
    refine lv_topi (fun x37 ex37 => ?_)
    replace hf := nm_i hf ex37
    refine lv_iconst (v := 1) hx hb dX5_isNumber_79 (by decide) ?_
    refine lv_isub hx hb dX5_isNumber_80 ?_
    refine lv_topi (fun x38 ex38 => ?_)
    replace hf := nm_i hf ex38
    obtain ⟨o39, ho39, hf⟩ := bd_i hf
    refine cl_i [] [0] [wM cT g b u_mo] hP (va_D_adr hD rfl) hA hS (va_runS (As := [.int p1, .int ((1 : Int32)), .int x38]) (rest := []) ⟨hx, hb, hml, hown, hts⟩ (c_X5_in l D cT g  fu  p1 ((1 : Int32)) x38 o39 ho39 _) (va_cwS 3 hts gX5_isNumber_X5_in rfl rfl rfl (by decide +kernel) ⟨Nat.le_of_ble_eq_true rfl, Nat.le_of_ble_eq_true rfl⟩) ⟨PRE_blind, PRE_ok [] (by decide) hP (va_D_adr hD rfl) hA hS hK hN hZ⟩ rfl rfl hl.1 rfl (lv_room (Nat.le_of_ble_eq_true rfl)) dX5_isNumber_81 ⟨Nat.le_of_ble_eq_true rfl, Nat.le_of_ble_eq_true rfl⟩) rfl 1 rfl (by decide) (by decide) (fun H locs hP hS => ?_)
    obtain rfl := Option.some.inj hf
    subst hQ
    exact en_z hx hb hr hP hS hlocks dX5_isNumber_84
  replace hf := it_f hf c35
  by_cases c40 : p0 = (4 : Int32)
  · replace hf := it_t hf c40
    refine lv_tableIn (off := 84) (tgt := 85) hx hb dX5_isNumber_1 (by rw [c40]; decide) (by rw [c40]; decide) (by rw [c40]; rfl) (by decide) ?_
    refine lv_iload_n hx hb dX5_isNumber_85 rfl (lv_at hl 2 rfl) ?_
    refine lv_aload_n hx hb dX5_isNumber_86 rfl (lv_at hl 0 rfl) ?_
    refine va_get (ci := 5) (v := .ref (g (b + 1))) (C := RX5) (T := TX5) (N := 12) hx hb hts iw_X5_isNumber_X5 hown hK hP 0 rfl rfl 0 (by decide) (hts (.fieldLink RX5 7 "BallastTrackModel" "s" "[I") (List.mem_of_getElem? (i := 1) rfl)) (fun _ h9 => h9) rfl dX5_isNumber_87 ?_
    refine lv_iconst (v := 4) hx hb dX5_isNumber_90 (by decide) ?_
    obtain ⟨hi41, hf⟩ := ix_i hf
    refine va_iald hx hb hK hP 1 0 rfl rfl hi41 dX5_isNumber_91 ?_
    refine lv_topi (fun x42 ex42 => ?_)
    replace hf := nm_i hf ex42
    refine lv_iconst (v := 1) hx hb dX5_isNumber_92 (by decide) ?_
    refine lv_iadd hx hb dX5_isNumber_93 ?_
    refine lv_topi (fun x43 ex43 => ?_)
    replace hf := nm_i hf ex43
    refine lv_aload_n hx hb dX5_isNumber_94 rfl (lv_at hl 0 rfl) ?_
    refine va_get (ci := 5) (v := .ref (g (b + 1))) (C := RX5) (T := TX5) (N := 12) hx hb hts iw_X5_isNumber_X5 hown hK hP 0 rfl rfl 0 (by decide) (hts (.fieldLink RX5 7 "BallastTrackModel" "s" "[I") (List.mem_of_getElem? (i := 1) rfl)) (fun _ h9 => h9) rfl dX5_isNumber_95 ?_
    refine lv_bipush (v := 6) hx hb dX5_isNumber_98 (by decide) ?_
    obtain ⟨hi44, hf⟩ := ix_i hf
    refine va_iald hx hb hK hP 1 0 rfl rfl hi44 dX5_isNumber_100 ?_
    refine lv_topi (fun x45 ex45 => ?_)
    replace hf := nm_i hf ex45
    refine lv_iconst (v := 1) hx hb dX5_isNumber_101 (by decide) ?_
    refine lv_isub hx hb dX5_isNumber_102 ?_
    refine lv_topi (fun x46 ex46 => ?_)
    replace hf := nm_i hf ex46
    obtain ⟨o47, ho47, hf⟩ := bd_i hf
    refine cl_i [] [0] [wM cT g b u_mo] hP (va_D_adr hD rfl) hA hS (va_runS (As := [.int p1, .int x43, .int x46]) (rest := []) ⟨hx, hb, hml, hown, hts⟩ (c_X5_in l D cT g  fu  p1 x43 x46 o47 ho47 _) (va_cwS 3 hts gX5_isNumber_X5_in rfl rfl rfl (by decide +kernel) ⟨Nat.le_of_ble_eq_true rfl, Nat.le_of_ble_eq_true rfl⟩) ⟨PRE_blind, PRE_ok [] (by decide) hP (va_D_adr hD rfl) hA hS hK hN hZ⟩ rfl rfl hl.1 rfl (lv_room (Nat.le_of_ble_eq_true rfl)) dX5_isNumber_103 ⟨Nat.le_of_ble_eq_true rfl, Nat.le_of_ble_eq_true rfl⟩) rfl 1 rfl (by decide) (by decide) (fun H locs hP hS => ?_)
    obtain rfl := Option.some.inj hf
    subst hQ
    exact en_z hx hb hr hP hS hlocks dX5_isNumber_106
  replace hf := it_f hf c40
  by_cases c48 : p0 = (5 : Int32)
  · replace hf := it_t hf c48
    refine lv_tableIn (off := 106) (tgt := 107) hx hb dX5_isNumber_1 (by rw [c48]; decide) (by rw [c48]; decide) (by rw [c48]; rfl) (by decide) ?_
    refine lv_iload_n hx hb dX5_isNumber_107 rfl (lv_at hl 2 rfl) ?_
    refine lv_aload_n hx hb dX5_isNumber_108 rfl (lv_at hl 0 rfl) ?_
    refine va_get (ci := 5) (v := .ref (g (b + 1))) (C := RX5) (T := TX5) (N := 12) hx hb hts iw_X5_isNumber_X5 hown hK hP 0 rfl rfl 0 (by decide) (hts (.fieldLink RX5 7 "BallastTrackModel" "s" "[I") (List.mem_of_getElem? (i := 1) rfl)) (fun _ h9 => h9) rfl dX5_isNumber_109 ?_
    refine lv_iconst (v := 5) hx hb dX5_isNumber_112 (by decide) ?_
    obtain ⟨hi49, hf⟩ := ix_i hf
    refine va_iald hx hb hK hP 1 0 rfl rfl hi49 dX5_isNumber_113 ?_
    refine lv_topi (fun x50 ex50 => ?_)
    replace hf := nm_i hf ex50
    refine lv_iconst (v := 1) hx hb dX5_isNumber_114 (by decide) ?_
    refine lv_iadd hx hb dX5_isNumber_115 ?_
    refine lv_topi (fun x51 ex51 => ?_)
    replace hf := nm_i hf ex51
    refine lv_sipush (v := 2000) hx hb dX5_isNumber_116 (by decide) ?_
    obtain ⟨o52, ho52, hf⟩ := bd_i hf
    refine cl_i [] [0] [wM cT g b u_mo] hP (va_D_adr hD rfl) hA hS (va_runS (As := [.int p1, .int x51, .int ((2000 : Int32))]) (rest := []) ⟨hx, hb, hml, hown, hts⟩ (c_X5_in l D cT g  fu  p1 x51 ((2000 : Int32)) o52 ho52 _) (va_cwS 3 hts gX5_isNumber_X5_in rfl rfl rfl (by decide +kernel) ⟨Nat.le_of_ble_eq_true rfl, Nat.le_of_ble_eq_true rfl⟩) ⟨PRE_blind, PRE_ok [] (by decide) hP (va_D_adr hD rfl) hA hS hK hN hZ⟩ rfl rfl hl.1 rfl (lv_room (Nat.le_of_ble_eq_true rfl)) dX5_isNumber_119 ⟨Nat.le_of_ble_eq_true rfl, Nat.le_of_ble_eq_true rfl⟩) rfl 1 rfl (by decide) (by decide) (fun H locs hP hS => ?_)
    obtain rfl := Option.some.inj hf
    subst hQ
    exact en_z hx hb hr hP hS hlocks dX5_isNumber_122
  replace hf := it_f hf c48
  by_cases c53 : p0 = (6 : Int32)
  · replace hf := it_t hf c53
    refine lv_tableIn (off := 122) (tgt := 123) hx hb dX5_isNumber_1 (by rw [c53]; decide) (by rw [c53]; decide) (by rw [c53]; rfl) (by decide) ?_
    refine lv_iload_n hx hb dX5_isNumber_123 rfl (lv_at hl 2 rfl) ?_
    refine lv_bipush (v := 10) hx hb dX5_isNumber_124 (by decide) ?_
    refine lv_sipush (v := 500) hx hb dX5_isNumber_126 (by decide) ?_
    obtain ⟨o54, ho54, hf⟩ := bd_i hf
    refine cl_i [] [0] [wM cT g b u_mo] hP (va_D_adr hD rfl) hA hS (va_runS (As := [.int p1, .int ((10 : Int32)), .int ((500 : Int32))]) (rest := []) ⟨hx, hb, hml, hown, hts⟩ (c_X5_in l D cT g  fu  p1 ((10 : Int32)) ((500 : Int32)) o54 ho54 _) (va_cwS 3 hts gX5_isNumber_X5_in rfl rfl rfl (by decide +kernel) ⟨Nat.le_of_ble_eq_true rfl, Nat.le_of_ble_eq_true rfl⟩) ⟨PRE_blind, PRE_ok [] (by decide) hP (va_D_adr hD rfl) hA hS hK hN hZ⟩ rfl rfl hl.1 rfl (lv_room (Nat.le_of_ble_eq_true rfl)) dX5_isNumber_129 ⟨Nat.le_of_ble_eq_true rfl, Nat.le_of_ble_eq_true rfl⟩) rfl 1 rfl (by decide) (by decide) (fun H locs hP hS => ?_)
    obtain rfl := Option.some.inj hf
    subst hQ
    exact en_z hx hb hr hP hS hlocks dX5_isNumber_132
  replace hf := it_f hf c53
  by_cases c55 : p0 = (7 : Int32)
  · replace hf := it_t hf c55
    refine lv_tableIn (off := 132) (tgt := 133) hx hb dX5_isNumber_1 (by rw [c55]; decide) (by rw [c55]; decide) (by rw [c55]; rfl) (by decide) ?_
    refine lv_iload_n hx hb dX5_isNumber_133 rfl (lv_at hl 2 rfl) ?_
    refine lv_iconst (v := 1) hx hb dX5_isNumber_134 (by decide) ?_
    refine lv_bipush (v := 50) hx hb dX5_isNumber_135 (by decide) ?_
    obtain ⟨o56, ho56, hf⟩ := bd_i hf
    refine cl_i [] [0] [wM cT g b u_mo] hP (va_D_adr hD rfl) hA hS (va_runS (As := [.int p1, .int ((1 : Int32)), .int ((50 : Int32))]) (rest := []) ⟨hx, hb, hml, hown, hts⟩ (c_X5_in l D cT g  fu  p1 ((1 : Int32)) ((50 : Int32)) o56 ho56 _) (va_cwS 3 hts gX5_isNumber_X5_in rfl rfl rfl (by decide +kernel) ⟨Nat.le_of_ble_eq_true rfl, Nat.le_of_ble_eq_true rfl⟩) ⟨PRE_blind, PRE_ok [] (by decide) hP (va_D_adr hD rfl) hA hS hK hN hZ⟩ rfl rfl hl.1 rfl (lv_room (Nat.le_of_ble_eq_true rfl)) dX5_isNumber_137 ⟨Nat.le_of_ble_eq_true rfl, Nat.le_of_ble_eq_true rfl⟩) rfl 1 rfl (by decide) (by decide) (fun H locs hP hS => ?_)
    obtain rfl := Option.some.inj hf
    subst hQ
    exact en_z hx hb hr hP hS hlocks dX5_isNumber_140
  replace hf := it_f hf c55
  refine lv_tableOut (tgt := 141) hx hb dX5_isNumber_1 (sw_out (fun k h1 h2 => by
    rcases (show k = 0 ∨ k = 1 ∨ k = 2 ∨ k = 3 ∨ k = 4 ∨ k = 5 ∨ k = 6 ∨ k = 7 by omega) with rfl | rfl | rfl | rfl | rfl | rfl | rfl | rfl
    · exact c29
    · exact c31
    · exact c33
    · exact c35
    · exact c40
    · exact c48
    · exact c53
    · exact c55)) (by decide) ?_
  refine lv_iconst (v := 0) hx hb dX5_isNumber_141 (by decide) ?_
  obtain rfl := Option.some.inj hf
  subst hQ
  exact en_z (v := false) hx hb hr hP hS hlocks dX5_isNumber_142
theorem iw_X5_setNumber_X5 : ∀ w ∈ u_ws RX5 TX5 12, w ∈ wsX5_setNumber := by decide +kernel
def f_X5_setNumber (fu : Nat) (u_mo : TM) (p0 : Int32) (p1 : Int32) : Option (Int32 × TM) :=
bd (f_X5_isNumber fu u_mo p0 p1) fun (o10 : Bool) =>
if ¬ bI o10 = 0 then (
bd (f_X5_notes fu u_mo ) fun (o12 : TM) =>
nm ((1 : Int32) + p0) fun (x13 : Int32) =>
ix x13 281 <|
nm ((M_ss o12) x13.toNatClampNeg) fun (x15 : Int32) =>
nm ((1 : Int32) + p0) fun (x16 : Int32) =>
ix x16 281 <|
nm (M_ss_ o12 (upd (M_ss o12) x16.toNatClampNeg p1)) fun (u18 : TM) =>
some (x15, u18)
)
else (
some ((-100001 : Int32), u_mo)
)

abbrev rm_X5_setNumber : Room := { frames := 2, cells := 0, slots := 0, locals := 44 }
set_option maxHeartbeats 4000000 in
set_option maxRecDepth 100000 in
theorem c_X5_setNumber (l : Launch) (D : va_G) (cT : Nat → ClassId) (g : Nat → Nat) (b : Nat) (fu : Nat) (u_mo : TM) (p0 : Int32) (p1 : Int32) (o : Int32 × TM) (hf : f_X5_setNumber fu u_mo p0 p1 = some o) (sz : Nat) : Met l yX5_setNumber wsX5_setNumber rm_X5_setNumber (va_Pc [.ref (g b), .int p0, .int p1] (PRE D cT sz (List.flatten [wM cT g b u_mo]))) (QI D o.1 (List.flatten [wM cT g b o.2]) (va_A (List.flatten [wM cT g b u_mo]) sz)) 0 0 (va_A (List.flatten [wM cT g b u_mo]) sz) := by
  refine Met.ofW (cc := cX5_setNumber) (maxL := 4) (ret := (some .int)) (by decide) rfl ?_
  intro p e s m args below meth c s₁ B0 hml hv
  obtain ⟨hav, hsz, hP, hK, hD, hN, hZ⟩ := hv
  have hx := B0.exec
  have hb := B0.bytes
  have hr := B0.returns
  have hts := atoms_spec (ws := wsX5_setNumber) B0.pre
  have hown : s.vm.findClass RX5 = some m.cls := findClass_of_methodNamed B0.named
  have hlocks := B0.notSynchronized
  subst hsz
  have hD := hD.self (sz := s.heap.size)
  have hA : ∀ q : Nat, s.heap.size ≤ q → va_A (List.flatten [wM cT g b u_mo]) s.heap.size q := fun q h => Or.inr h
  generalize va_A (List.flatten [wM cT g b u_mo]) s.heap.size = A at hD hZ hA ⊢
  have hS : va_S A s.heap s.heap [] := va_S.rf
  have hl := lv_entry ([.ref (g b), .int p0, .int p1]) (n := 4) (Nat.le_of_ble_eq_true rfl)
  rw [hav]
  rw [lg_entry_eq]
  generalize (lg_sl ([.ref (g b), .int p0, .int p1]) ++ List.replicate (4 - (lg_sl ([.ref (g b), .int p0, .int p1])).length) Slot.unset).toArray = ls at hl ⊢
  have hl : lv_has ls 4 [(0, .ref (g b)), (1, .int p0), (2, .int p1)] := hl
  rw [← hav]
  generalize hQ : MQ below _ _ _ _ _ _ = Q
  show W p l e rm_X5_setNumber s m args below meth c s.heap [] 0 0 Q (F0 m 0 ls [])
  unfold f_X5_setNumber at hf
  refine lv_aload_n hx hb dX5_setNumber_0 rfl (lv_at hl 0 rfl) ?_
  refine lv_iload_n hx hb dX5_setNumber_1 rfl (lv_at hl 1 rfl) ?_
  refine lv_iload_n hx hb dX5_setNumber_2 rfl (lv_at hl 2 rfl) ?_
  obtain ⟨o10, ho10, hf⟩ := bd_i hf
  refine cl_i [0] [] [wM cT g b u_mo] hP (va_D_adr hD rfl) hA hS (va_runV (As := [.int p0, .int p1]) (rest := []) ⟨hx, hb, hml, hown, hts⟩ (c_X5_isNumber l D cT g b fu u_mo p0 p1 o10 ho10 _) (cwV 2 hts gX5_setNumber_X5_isNumber rfl rfl rfl (by decide +kernel) ⟨Nat.le_of_ble_eq_true rfl, Nat.le_of_ble_eq_true rfl⟩) ⟨PRE_blind, va_recv hK hP (ci := 5) (q0 := 0) rfl rfl, PRE_ok [0] (by decide) hP (va_D_adr hD rfl) hA hS hK hN hZ⟩ rfl rfl hl.1 rfl (lv_room (Nat.le_of_ble_eq_true rfl)) dX5_setNumber_3 ⟨Nat.le_of_ble_eq_true rfl, Nat.le_of_ble_eq_true rfl⟩) rfl 1 rfl (by decide) (by decide) (fun H locs hP hS => ?_)
  refine lv_if_ne (tgt := 12) hx hb dX5_setNumber_6 (by decide) (fun c11 => ?_) (fun c11 => ?_)
  · replace hf := it_t hf c11
    refine lv_aload_n hx hb dX5_setNumber_12 rfl (lv_at hl 0 rfl) ?_
    obtain ⟨o12, ho12, hf⟩ := bd_i hf
    refine cl_v [0] [] [wM cT g b o12] hP (va_D_adr hD rfl) hA hS (va_runV (As := []) (rest := []) ⟨hx, hb, hml, hown, hts⟩ (c_X5_notes l D cT g b fu u_mo  o12 ho12 _) (cwV 0 hts gX5_setNumber_X5_notes rfl rfl rfl (by decide +kernel) ⟨Nat.le_of_ble_eq_true rfl, Nat.le_of_ble_eq_true rfl⟩) ⟨PRE_blind, va_recv hK hP (ci := 5) (q0 := 0) rfl rfl, PRE_ok [0] (by decide) hP (va_D_adr hD rfl) hA hS hK hN hZ⟩ rfl rfl hl.1 rfl (lv_room (Nat.le_of_ble_eq_true rfl)) dX5_setNumber_13 ⟨Nat.le_of_ble_eq_true rfl, Nat.le_of_ble_eq_true rfl⟩) rfl 1 rfl (by decide) (by decide) (fun H locs hP hS => ?_)
    refine lv_aload_n hx hb dX5_setNumber_16 rfl (lv_at hl 0 rfl) ?_
    refine va_get (ci := 5) (v := .ref (g (b + 1))) (C := RX5) (T := TX5) (N := 12) hx hb hts iw_X5_setNumber_X5 hown hK hP 0 rfl rfl 0 (by decide) (hts (.fieldLink RX5 7 "BallastTrackModel" "s" "[I") (List.mem_of_getElem? (i := 2) rfl)) (fun _ h9 => h9) rfl dX5_setNumber_17 ?_
    refine lv_iconst (v := 1) hx hb dX5_setNumber_20 (by decide) ?_
    refine lv_iload_n hx hb dX5_setNumber_21 rfl (lv_at hl 1 rfl) ?_
    refine lv_iadd hx hb dX5_setNumber_22 ?_
    refine lv_topi (fun x13 ex13 => ?_)
    replace hf := nm_i hf ex13
    obtain ⟨hi14, hf⟩ := ix_i hf
    refine va_iald hx hb hK hP 1 0 rfl rfl hi14 dX5_setNumber_23 ?_
    refine lv_topi (fun x15 ex15 => ?_)
    replace hf := nm_i hf ex15
    refine lv_istore_n (lv' := [(3, .int x15), (0, .ref (g b)), (1, .int p0), (2, .int p1)]) hx hb dX5_setNumber_24 rfl hl (by decide) rfl (fun ls hl => ?_)
    refine lv_aload_n hx hb dX5_setNumber_25 rfl (lv_at hl 1 rfl) ?_
    refine va_get (ci := 5) (v := .ref (g (b + 1))) (C := RX5) (T := TX5) (N := 12) hx hb hts iw_X5_setNumber_X5 hown hK hP 0 rfl rfl 0 (by decide) (hts (.fieldLink RX5 7 "BallastTrackModel" "s" "[I") (List.mem_of_getElem? (i := 2) rfl)) (fun _ h9 => h9) rfl dX5_setNumber_26 ?_
    refine lv_iconst (v := 1) hx hb dX5_setNumber_29 (by decide) ?_
    refine lv_iload_n hx hb dX5_setNumber_30 rfl (lv_at hl 2 rfl) ?_
    refine lv_iadd hx hb dX5_setNumber_31 ?_
    refine lv_topi (fun x16 ex16 => ?_)
    replace hf := nm_i hf ex16
    refine lv_iload_n hx hb dX5_setNumber_32 rfl (lv_at hl 3 rfl) ?_
    obtain ⟨hi17, hf⟩ := ix_i hf
    refine va_iast hx hb hK hP (va_D_adr hD rfl) hS 1 0 rfl rfl hi17 dX5_setNumber_33 (fun H locs hP _ hS => ?_)
    obtain ⟨u18, eu18⟩ : ∃ z : TM, z = M_ss_ o12 (upd (M_ss o12) x16.toNatClampNeg p1) := ⟨_, rfl⟩
    replace hf := nm_i hf eu18
    have hP : va_P D vwCl (List.flatten [wM cT g b u18]) H := by rw [eu18]; exact hP
    refine lv_iload_n hx hb dX5_setNumber_34 rfl (lv_at hl 0 rfl) ?_
    obtain rfl := Option.some.inj hf
    subst hQ
    exact en_i hx hb hr hP hS hlocks dX5_setNumber_35
  · replace hf := it_f hf (not_not_intro c11)
    refine lv_ldc (v := -100001) hx hb hown (hts (.constant RX5 68 (-100001)) (List.mem_of_getElem? (i := 1) rfl)) dX5_setNumber_9 ?_
    obtain rfl := Option.some.inj hf
    subst hQ
    exact en_i hx hb hr hP hS hlocks dX5_setNumber_11
theorem iw_X5_puts_X5 : ∀ w ∈ u_ws RX5 TX5 12, w ∈ wsX5_puts := by decide +kernel
def f_X5_puts (fu : Nat) (u_mo : TM) (p0 : Int32) (p1 : Int32) : Option (TM) :=
ix ((15 : Int32)) 281 <|
nm ((M_ss u_mo) ((15 : Int32)).toNatClampNeg) fun (x14 : Int32) =>
nm ((41 : Int32) + p0) fun (x15 : Int32) =>
ix x15 281 <|
nm ((M_ss u_mo) x15.toNatClampNeg) fun (x17 : Int32) =>
nm (p1 - x17) fun (x18 : Int32) =>
nm (x14 + x18) fun (x19 : Int32) =>
ix ((15 : Int32)) 281 <|
nm (M_ss_ u_mo (upd (M_ss u_mo) ((15 : Int32)).toNatClampNeg x19)) fun (u21 : TM) =>
nm ((41 : Int32) + p0) fun (x22 : Int32) =>
ix x22 281 <|
nm (M_ss_ u21 (upd (M_ss u21) x22.toNatClampNeg p1)) fun (u24 : TM) =>
some (u24)

abbrev rm_X5_puts : Room := { frames := 0, cells := 0, slots := 0, locals := 0 }
set_option maxHeartbeats 4000000 in
set_option maxRecDepth 100000 in
theorem c_X5_puts (l : Launch) (D : va_G) (cT : Nat → ClassId) (g : Nat → Nat) (b : Nat) (fu : Nat) (u_mo : TM) (p0 : Int32) (p1 : Int32) (o : TM) (hf : f_X5_puts fu u_mo p0 p1 = some o) (sz : Nat) : Met l yX5_puts wsX5_puts rm_X5_puts (va_Pc [.ref (g b), .int p0, .int p1] (PRE D cT sz (List.flatten [wM cT g b u_mo]))) (QV D (List.flatten [wM cT g b o]) (va_A (List.flatten [wM cT g b u_mo]) sz)) 0 0 (va_A (List.flatten [wM cT g b u_mo]) sz) := by
  refine Met.ofW (cc := cX5_puts) (maxL := 3) (ret := none) (by decide) rfl ?_
  intro p e s m args below meth c s₁ B0 hml hv
  obtain ⟨hav, hsz, hP, hK, hD, hN, hZ⟩ := hv
  have hx := B0.exec
  have hb := B0.bytes
  have hr := B0.returns
  have hts := atoms_spec (ws := wsX5_puts) B0.pre
  have hown : s.vm.findClass RX5 = some m.cls := findClass_of_methodNamed B0.named
  have hlocks := B0.notSynchronized
  subst hsz
  have hD := hD.self (sz := s.heap.size)
  have hA : ∀ q : Nat, s.heap.size ≤ q → va_A (List.flatten [wM cT g b u_mo]) s.heap.size q := fun q h => Or.inr h
  generalize va_A (List.flatten [wM cT g b u_mo]) s.heap.size = A at hD hZ hA ⊢
  have hS : va_S A s.heap s.heap [] := va_S.rf
  have hl := lv_entry ([.ref (g b), .int p0, .int p1]) (n := 3) (Nat.le_of_ble_eq_true rfl)
  rw [hav]
  rw [lg_entry_eq]
  generalize (lg_sl ([.ref (g b), .int p0, .int p1]) ++ List.replicate (3 - (lg_sl ([.ref (g b), .int p0, .int p1])).length) Slot.unset).toArray = ls at hl ⊢
  have hl : lv_has ls 3 [(0, .ref (g b)), (1, .int p0), (2, .int p1)] := hl
  rw [← hav]
  generalize hQ : MQ below _ _ _ _ _ _ = Q
  show W p l e rm_X5_puts s m args below meth c s.heap [] 0 0 Q (F0 m 0 ls [])
  unfold f_X5_puts at hf
  refine lv_aload_n hx hb dX5_puts_0 rfl (lv_at hl 0 rfl) ?_
  refine va_get (ci := 5) (v := .ref (g (b + 1))) (C := RX5) (T := TX5) (N := 12) hx hb hts iw_X5_puts_X5 hown hK hP 0 rfl rfl 0 (by decide) (hts (.fieldLink RX5 7 "BallastTrackModel" "s" "[I") (List.mem_of_getElem? (i := 1) rfl)) (fun _ h9 => h9) rfl dX5_puts_1 ?_
  refine lv_bipush (v := 15) hx hb dX5_puts_4 (by decide) ?_
  refine lv_dup2_11 hx hb dX5_puts_6 rfl rfl ?_
  obtain ⟨hi13, hf⟩ := ix_i hf
  refine va_iald hx hb hK hP 1 0 rfl rfl hi13 dX5_puts_7 ?_
  refine lv_topi (fun x14 ex14 => ?_)
  replace hf := nm_i hf ex14
  refine lv_iload_n hx hb dX5_puts_8 rfl (lv_at hl 2 rfl) ?_
  refine lv_aload_n hx hb dX5_puts_9 rfl (lv_at hl 0 rfl) ?_
  refine va_get (ci := 5) (v := .ref (g (b + 1))) (C := RX5) (T := TX5) (N := 12) hx hb hts iw_X5_puts_X5 hown hK hP 0 rfl rfl 0 (by decide) (hts (.fieldLink RX5 7 "BallastTrackModel" "s" "[I") (List.mem_of_getElem? (i := 1) rfl)) (fun _ h9 => h9) rfl dX5_puts_10 ?_
  refine lv_bipush (v := 41) hx hb dX5_puts_13 (by decide) ?_
  refine lv_iload_n hx hb dX5_puts_15 rfl (lv_at hl 1 rfl) ?_
  refine lv_iadd hx hb dX5_puts_16 ?_
  refine lv_topi (fun x15 ex15 => ?_)
  replace hf := nm_i hf ex15
  obtain ⟨hi16, hf⟩ := ix_i hf
  refine va_iald hx hb hK hP 1 0 rfl rfl hi16 dX5_puts_17 ?_
  refine lv_topi (fun x17 ex17 => ?_)
  replace hf := nm_i hf ex17
  refine lv_isub hx hb dX5_puts_18 ?_
  refine lv_topi (fun x18 ex18 => ?_)
  replace hf := nm_i hf ex18
  refine lv_iadd hx hb dX5_puts_19 ?_
  refine lv_topi (fun x19 ex19 => ?_)
  replace hf := nm_i hf ex19
  obtain ⟨hi20, hf⟩ := ix_i hf
  refine va_iast hx hb hK hP (va_D_adr hD rfl) hS 1 0 rfl rfl hi20 dX5_puts_20 (fun H locs hP _ hS => ?_)
  obtain ⟨u21, eu21⟩ : ∃ z : TM, z = M_ss_ u_mo (upd (M_ss u_mo) ((15 : Int32)).toNatClampNeg x19) := ⟨_, rfl⟩
  replace hf := nm_i hf eu21
  have hP : va_P D vwCl (List.flatten [wM cT g b u21]) H := by rw [eu21]; exact hP
  refine lv_aload_n hx hb dX5_puts_21 rfl (lv_at hl 0 rfl) ?_
  refine va_get (ci := 5) (v := .ref (g (b + 1))) (C := RX5) (T := TX5) (N := 12) hx hb hts iw_X5_puts_X5 hown hK hP 0 rfl rfl 0 (by decide) (hts (.fieldLink RX5 7 "BallastTrackModel" "s" "[I") (List.mem_of_getElem? (i := 1) rfl)) (fun _ h9 => h9) rfl dX5_puts_22 ?_
  refine lv_bipush (v := 41) hx hb dX5_puts_25 (by decide) ?_
  refine lv_iload_n hx hb dX5_puts_27 rfl (lv_at hl 1 rfl) ?_
  refine lv_iadd hx hb dX5_puts_28 ?_
  refine lv_topi (fun x22 ex22 => ?_)
  replace hf := nm_i hf ex22
  refine lv_iload_n hx hb dX5_puts_29 rfl (lv_at hl 2 rfl) ?_
  obtain ⟨hi23, hf⟩ := ix_i hf
  refine va_iast hx hb hK hP (va_D_adr hD rfl) hS 1 0 rfl rfl hi23 dX5_puts_30 (fun H locs hP _ hS => ?_)
  obtain ⟨u24, eu24⟩ : ∃ z : TM, z = M_ss_ u21 (upd (M_ss u21) x22.toNatClampNeg p1) := ⟨_, rfl⟩
  replace hf := nm_i hf eu24
  have hP : va_P D vwCl (List.flatten [wM cT g b u24]) H := by rw [eu24]; exact hP
  obtain rfl := Option.some.inj hf
  subst hQ
  exact en_v hx hb hr hP hS hlocks dX5_puts_31
theorem iw_X5_setLevel_X5 : ∀ w ∈ u_ws RX5 TX5 12, w ∈ wsX5_setLevel := by decide +kernel
def f_X5_setLevel (fu : Nat) (u_mo : TM) (p0 : Int32) (p1 : Int32) : Option (Int32 × TM) :=
bd (f_X5_isSleeper fu u_mo p0) fun (o10 : Bool) =>
if bI o10 = 0 then (
some ((-100001 : Int32), u_mo)
)
else (
bd (f_X5_isLevel fu  p1) fun (o12 : Bool) =>
if ¬ bI o12 = 0 then (
bd (f_X5_notes fu u_mo ) fun (o14 : TM) =>
nm ((41 : Int32) + p0) fun (x15 : Int32) =>
ix x15 281 <|
nm ((M_ss o14) x15.toNatClampNeg) fun (x17 : Int32) =>
bd (f_X5_puts fu o14 p0 p1) fun (o18 : TM) =>
some (x17, o18)
)
else (
some ((-100001 : Int32), u_mo)
)
)

abbrev rm_X5_setLevel : Room := { frames := 2, cells := 0, slots := 0, locals := 43 }
set_option maxHeartbeats 4000000 in
set_option maxRecDepth 100000 in
theorem c_X5_setLevel (l : Launch) (D : va_G) (cT : Nat → ClassId) (g : Nat → Nat) (b : Nat) (fu : Nat) (u_mo : TM) (p0 : Int32) (p1 : Int32) (o : Int32 × TM) (hf : f_X5_setLevel fu u_mo p0 p1 = some o) (sz : Nat) : Met l yX5_setLevel wsX5_setLevel rm_X5_setLevel (va_Pc [.ref (g b), .int p0, .int p1] (PRE D cT sz (List.flatten [wM cT g b u_mo]))) (QI D o.1 (List.flatten [wM cT g b o.2]) (va_A (List.flatten [wM cT g b u_mo]) sz)) 0 0 (va_A (List.flatten [wM cT g b u_mo]) sz) := by
  refine Met.ofW (cc := cX5_setLevel) (maxL := 4) (ret := (some .int)) (by decide) rfl ?_
  intro p e s m args below meth c s₁ B0 hml hv
  obtain ⟨hav, hsz, hP, hK, hD, hN, hZ⟩ := hv
  have hx := B0.exec
  have hb := B0.bytes
  have hr := B0.returns
  have hts := atoms_spec (ws := wsX5_setLevel) B0.pre
  have hown : s.vm.findClass RX5 = some m.cls := findClass_of_methodNamed B0.named
  have hlocks := B0.notSynchronized
  subst hsz
  have hD := hD.self (sz := s.heap.size)
  have hA : ∀ q : Nat, s.heap.size ≤ q → va_A (List.flatten [wM cT g b u_mo]) s.heap.size q := fun q h => Or.inr h
  generalize va_A (List.flatten [wM cT g b u_mo]) s.heap.size = A at hD hZ hA ⊢
  have hS : va_S A s.heap s.heap [] := va_S.rf
  have hl := lv_entry ([.ref (g b), .int p0, .int p1]) (n := 4) (Nat.le_of_ble_eq_true rfl)
  rw [hav]
  rw [lg_entry_eq]
  generalize (lg_sl ([.ref (g b), .int p0, .int p1]) ++ List.replicate (4 - (lg_sl ([.ref (g b), .int p0, .int p1])).length) Slot.unset).toArray = ls at hl ⊢
  have hl : lv_has ls 4 [(0, .ref (g b)), (1, .int p0), (2, .int p1)] := hl
  rw [← hav]
  generalize hQ : MQ below _ _ _ _ _ _ = Q
  show W p l e rm_X5_setLevel s m args below meth c s.heap [] 0 0 Q (F0 m 0 ls [])
  unfold f_X5_setLevel at hf
  refine lv_aload_n hx hb dX5_setLevel_0 rfl (lv_at hl 0 rfl) ?_
  refine lv_iload_n hx hb dX5_setLevel_1 rfl (lv_at hl 1 rfl) ?_
  obtain ⟨o10, ho10, hf⟩ := bd_i hf
  refine cl_i [0] [] [wM cT g b u_mo] hP (va_D_adr hD rfl) hA hS (va_runV (As := [.int p0]) (rest := []) ⟨hx, hb, hml, hown, hts⟩ (c_X5_isSleeper l D cT g b fu u_mo p0 o10 ho10 _) (cwV 1 hts gX5_setLevel_X5_isSleeper rfl rfl rfl (by decide +kernel) ⟨Nat.le_of_ble_eq_true rfl, Nat.le_of_ble_eq_true rfl⟩) ⟨PRE_blind, va_recv hK hP (ci := 5) (q0 := 0) rfl rfl, PRE_ok [0] (by decide) hP (va_D_adr hD rfl) hA hS hK hN hZ⟩ rfl rfl hl.1 rfl (lv_room (Nat.le_of_ble_eq_true rfl)) dX5_setLevel_2 ⟨Nat.le_of_ble_eq_true rfl, Nat.le_of_ble_eq_true rfl⟩) rfl 1 rfl (by decide) (by decide) (fun H locs hP hS => ?_)
  refine lv_if_eq (tgt := 15) hx hb dX5_setLevel_5 (by decide) (fun c11 => ?_) (fun c11 => ?_)
  · replace hf := it_t hf c11
    refine lv_ldc (v := -100001) hx hb hown (hts (.constant RX5 68 (-100001)) (List.mem_of_getElem? (i := 1) rfl)) dX5_setLevel_15 ?_
    obtain rfl := Option.some.inj hf
    subst hQ
    exact en_i hx hb hr hP hS hlocks dX5_setLevel_17
  · replace hf := it_f hf c11
    refine lv_iload_n hx hb dX5_setLevel_8 rfl (lv_at hl 2 rfl) ?_
    obtain ⟨o12, ho12, hf⟩ := bd_i hf
    refine cl_i [] [0] [wM cT g b u_mo] hP (va_D_adr hD rfl) hA hS (va_runS (As := [.int p1]) (rest := []) ⟨hx, hb, hml, hown, hts⟩ (c_X5_isLevel l D cT g  fu  p1 o12 ho12 _) (va_cwS 1 hts gX5_setLevel_X5_isLevel rfl rfl rfl (by decide +kernel) ⟨Nat.le_of_ble_eq_true rfl, Nat.le_of_ble_eq_true rfl⟩) ⟨PRE_blind, PRE_ok [] (by decide) hP (va_D_adr hD rfl) hA hS hK hN hZ⟩ rfl rfl hl.1 rfl (lv_room (Nat.le_of_ble_eq_true rfl)) dX5_setLevel_9 ⟨Nat.le_of_ble_eq_true rfl, Nat.le_of_ble_eq_true rfl⟩) rfl 1 rfl (by decide) (by decide) (fun H locs hP hS => ?_)
    refine lv_if_ne (tgt := 18) hx hb dX5_setLevel_12 (by decide) (fun c13 => ?_) (fun c13 => ?_)
    · replace hf := it_t hf c13
      refine lv_aload_n hx hb dX5_setLevel_18 rfl (lv_at hl 0 rfl) ?_
      obtain ⟨o14, ho14, hf⟩ := bd_i hf
      refine cl_v [0] [] [wM cT g b o14] hP (va_D_adr hD rfl) hA hS (va_runV (As := []) (rest := []) ⟨hx, hb, hml, hown, hts⟩ (c_X5_notes l D cT g b fu u_mo  o14 ho14 _) (cwV 0 hts gX5_setLevel_X5_notes rfl rfl rfl (by decide +kernel) ⟨Nat.le_of_ble_eq_true rfl, Nat.le_of_ble_eq_true rfl⟩) ⟨PRE_blind, va_recv hK hP (ci := 5) (q0 := 0) rfl rfl, PRE_ok [0] (by decide) hP (va_D_adr hD rfl) hA hS hK hN hZ⟩ rfl rfl hl.1 rfl (lv_room (Nat.le_of_ble_eq_true rfl)) dX5_setLevel_19 ⟨Nat.le_of_ble_eq_true rfl, Nat.le_of_ble_eq_true rfl⟩) rfl 1 rfl (by decide) (by decide) (fun H locs hP hS => ?_)
      refine lv_aload_n hx hb dX5_setLevel_22 rfl (lv_at hl 0 rfl) ?_
      refine va_get (ci := 5) (v := .ref (g (b + 1))) (C := RX5) (T := TX5) (N := 12) hx hb hts iw_X5_setLevel_X5 hown hK hP 0 rfl rfl 0 (by decide) (hts (.fieldLink RX5 7 "BallastTrackModel" "s" "[I") (List.mem_of_getElem? (i := 2) rfl)) (fun _ h9 => h9) rfl dX5_setLevel_23 ?_
      refine lv_bipush (v := 41) hx hb dX5_setLevel_26 (by decide) ?_
      refine lv_iload_n hx hb dX5_setLevel_28 rfl (lv_at hl 1 rfl) ?_
      refine lv_iadd hx hb dX5_setLevel_29 ?_
      refine lv_topi (fun x15 ex15 => ?_)
      replace hf := nm_i hf ex15
      obtain ⟨hi16, hf⟩ := ix_i hf
      refine va_iald hx hb hK hP 1 0 rfl rfl hi16 dX5_setLevel_30 ?_
      refine lv_topi (fun x17 ex17 => ?_)
      replace hf := nm_i hf ex17
      refine lv_istore_n (lv' := [(3, .int x17), (0, .ref (g b)), (1, .int p0), (2, .int p1)]) hx hb dX5_setLevel_31 rfl hl (by decide) rfl (fun ls hl => ?_)
      refine lv_aload_n hx hb dX5_setLevel_32 rfl (lv_at hl 1 rfl) ?_
      refine lv_iload_n hx hb dX5_setLevel_33 rfl (lv_at hl 2 rfl) ?_
      refine lv_iload_n hx hb dX5_setLevel_34 rfl (lv_at hl 3 rfl) ?_
      obtain ⟨o18, ho18, hf⟩ := bd_i hf
      refine cl_v [0] [] [wM cT g b o18] hP (va_D_adr hD rfl) hA hS (va_runV (As := [.int p0, .int p1]) (rest := []) ⟨hx, hb, hml, hown, hts⟩ (c_X5_puts l D cT g b fu o14 p0 p1 o18 ho18 _) (cwV 2 hts gX5_setLevel_X5_puts rfl rfl rfl (by decide +kernel) ⟨Nat.le_of_ble_eq_true rfl, Nat.le_of_ble_eq_true rfl⟩) ⟨PRE_blind, va_recv hK hP (ci := 5) (q0 := 0) rfl rfl, PRE_ok [0] (by decide) hP (va_D_adr hD rfl) hA hS hK hN hZ⟩ rfl rfl hl.1 rfl (lv_room (Nat.le_of_ble_eq_true rfl)) dX5_setLevel_35 ⟨Nat.le_of_ble_eq_true rfl, Nat.le_of_ble_eq_true rfl⟩) rfl 1 rfl (by decide) (by decide) (fun H locs hP hS => ?_)
      refine lv_iload_n hx hb dX5_setLevel_38 rfl (lv_at hl 0 rfl) ?_
      obtain rfl := Option.some.inj hf
      subst hQ
      exact en_i hx hb hr hP hS hlocks dX5_setLevel_39
    · replace hf := it_f hf (not_not_intro c13)
      refine lv_ldc (v := -100001) hx hb hown (hts (.constant RX5 68 (-100001)) (List.mem_of_getElem? (i := 1) rfl)) dX5_setLevel_15 ?_
      obtain rfl := Option.some.inj hf
      subst hQ
      exact en_i hx hb hr hP hS hlocks dX5_setLevel_17
