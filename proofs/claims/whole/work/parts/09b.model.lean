theorem iw_X5_orderAt_X5 : ∀ w ∈ u_ws RX5 TX5 12, w ∈ wsX5_orderAt := by decide +kernel
def lb_X5_orderAt_14 (fu : Nat) (u_mo : TM) (o21 : Int32) (rec : Int32 → Int32 → Option (Int32)) (v36 : Int32) (v37 : Int32) : Option (Int32) :=
if (3 : Int32) ≤ v37 then (
some (v36)
)
else (
nm ((4 : Int32) + v37) fun (x41 : Int32) =>
ix x41 281 <|
nm ((M_ss u_mo) x41.toNatClampNeg) fun (x43 : Int32) =>
jn (fun (x45 : Int32) =>
nm (v36 + x45) fun (x49 : Int32) =>
nm (v37 + (1 : Int32)) fun (x50 : Int32) =>
rec x49 x50
) fun K39_48 =>
if o21 ≤ x43 then (
K39_48 ((0 : Int32))
)
else (
K39_48 ((1 : Int32))
)
)

def lf_X5_orderAt_14 (fu : Nat) (u_mo : TM) (o21 : Int32) : Nat → Int32 → Int32 → Option (Int32) := lq_2 (lb_X5_orderAt_14 fu u_mo o21)
def f_X5_orderAt (fu : Nat) (u_mo : TM) (p0 : Int32) : Option (Int32) :=
bd (f_X5_defect fu u_mo p0) fun (o20 : Int32) =>
bd (f_X5_size fu  o20) fun (o21 : Int32) =>
bd (lf_X5_orderAt_14 fu u_mo o21 fu ((0 : Int32)) ((0 : Int32))) fun (z39 : Int32) =>
some (z39)

abbrev rm_X5_orderAt : Room := { frames := 1, cells := 0, slots := 0, locals := 22 }
set_option maxHeartbeats 4000000 in
set_option maxRecDepth 100000 in
theorem c_X5_orderAt (l : Launch) (D : va_G) (cT : Nat → ClassId) (g : Nat → Nat) (b : Nat) (fu : Nat) (u_mo : TM) (p0 : Int32) (o : Int32) (hf : f_X5_orderAt fu u_mo p0 = some o) (sz : Nat) : Met l yX5_orderAt wsX5_orderAt rm_X5_orderAt (va_Pc [.ref (g b), .int p0] (PRE D cT sz (List.flatten [wM cT g b u_mo]))) (QI D o (List.flatten [wM cT g b u_mo]) (va_A (List.flatten [wM cT g b u_mo]) sz)) 0 0 (va_A (List.flatten [wM cT g b u_mo]) sz) := by
  refine Met.ofW (cc := cX5_orderAt) (maxL := 5) (ret := (some .int)) (by decide) rfl ?_
  intro p e s m args below meth c s₁ B0 hml hv
  obtain ⟨hav, hsz, hP, hK, hD, hN, hZ⟩ := hv
  have hx := B0.exec
  have hb := B0.bytes
  have hr := B0.returns
  have hts := atoms_spec (ws := wsX5_orderAt) B0.pre
  have hown : s.vm.findClass RX5 = some m.cls := findClass_of_methodNamed B0.named
  have hlocks := B0.notSynchronized
  subst hsz
  have hD := hD.self (sz := s.heap.size)
  have hA : ∀ q : Nat, s.heap.size ≤ q → va_A (List.flatten [wM cT g b u_mo]) s.heap.size q := fun q h => Or.inr h
  generalize va_A (List.flatten [wM cT g b u_mo]) s.heap.size = A at hD hZ hA ⊢
  have hS : va_S A s.heap s.heap [] := va_S.rf
  have hl := lv_entry ([.ref (g b), .int p0]) (n := 5) (Nat.le_of_ble_eq_true rfl)
  rw [hav]
  rw [lg_entry_eq]
  generalize (lg_sl ([.ref (g b), .int p0]) ++ List.replicate (5 - (lg_sl ([.ref (g b), .int p0])).length) Slot.unset).toArray = ls at hl ⊢
  have hl : lv_has ls 5 [(0, .ref (g b)), (1, .int p0)] := hl
  rw [← hav]
  generalize hQ : MQ below _ _ _ _ _ _ = Q
  show W p l e rm_X5_orderAt s m args below meth c s.heap [] 0 0 Q (F0 m 0 ls [])
  unfold f_X5_orderAt at hf
  refine lv_aload_n hx hb dX5_orderAt_0 rfl (lv_at hl 0 rfl) ?_
  refine lv_iload_n hx hb dX5_orderAt_1 rfl (lv_at hl 1 rfl) ?_
  obtain ⟨o20, ho20, hf⟩ := bd_i hf
  refine cl_i [0] [] [wM cT g b u_mo] hP (va_D_adr hD rfl) hA hS (va_runV (As := [.int p0]) (rest := []) ⟨hx, hb, hml, hown, hts⟩ (c_X5_defect l D cT g b fu u_mo p0 o20 ho20 _) (cwV 1 hts gX5_orderAt_X5_defect rfl rfl rfl (by decide +kernel) ⟨Nat.le_of_ble_eq_true rfl, Nat.le_of_ble_eq_true rfl⟩) ⟨PRE_blind, va_recv hK hP (ci := 5) (q0 := 0) rfl rfl, PRE_ok [0] (by decide) hP (va_D_adr hD rfl) hA hS hK hN hZ⟩ rfl rfl hl.1 rfl (lv_room (Nat.le_of_ble_eq_true rfl)) dX5_orderAt_2 ⟨Nat.le_of_ble_eq_true rfl, Nat.le_of_ble_eq_true rfl⟩) rfl 1 rfl (by decide) (by decide) (fun H locs hP hS => ?_)
  obtain ⟨o21, ho21, hf⟩ := bd_i hf
  refine cl_i [] [0] [wM cT g b u_mo] hP (va_D_adr hD rfl) hA hS (va_runS (As := [.int o20]) (rest := []) ⟨hx, hb, hml, hown, hts⟩ (c_X5_size l D cT g  fu  o20 o21 ho21 _) (va_cwS 1 hts gX5_orderAt_X5_size rfl rfl rfl (by decide +kernel) ⟨Nat.le_of_ble_eq_true rfl, Nat.le_of_ble_eq_true rfl⟩) ⟨PRE_blind, PRE_ok [] (by decide) hP (va_D_adr hD rfl) hA hS hK hN hZ⟩ rfl rfl hl.1 rfl (lv_room (Nat.le_of_ble_eq_true rfl)) dX5_orderAt_5 ⟨Nat.le_of_ble_eq_true rfl, Nat.le_of_ble_eq_true rfl⟩) rfl 1 rfl (by decide) (by decide) (fun H locs hP hS => ?_)
  refine lv_istore_n (lv' := [(2, .int o21), (0, .ref (g b)), (1, .int p0)]) hx hb dX5_orderAt_8 rfl hl (by decide) rfl (fun ls hl => ?_)
  refine lv_iconst (v := 0) hx hb dX5_orderAt_9 (by decide) ?_
  refine lv_istore_n (lv' := [(3, .int ((0 : Int32))), (2, .int o21), (0, .ref (g b)), (1, .int p0)]) hx hb dX5_orderAt_10 rfl hl (by decide) rfl (fun ls hl => ?_)
  refine lv_iconst (v := 0) hx hb dX5_orderAt_11 (by decide) ?_
  refine lv_istore (lv' := [(4, .int ((0 : Int32))), (3, .int ((0 : Int32))), (2, .int o21), (0, .ref (g b)), (1, .int p0)]) hx hb dX5_orderAt_12 hl (by decide) rfl (fun ls hl => ?_)
  obtain ⟨z39, hz39, hf⟩ := bd_i hf
  have hL14 : ∀ (n : Nat) (v36 : Int32) (v37 : Int32) (z38 : Int32), lf_X5_orderAt_14 fu u_mo o21 n v36 v37 = some z38 → ∀ (H : Heap) (locs : List Loc) (ls : Array Slot), va_P D vwCl (List.flatten [wM cT g b u_mo]) H → va_S A s.heap H locs → lv_has ls 5 [(0, .ref (g b)), (2, .int o21), (3, .int v36), (4, .int v37)] → (∀ (H : Heap) (locs : List Loc) (ls : Array Slot), va_P D vwCl (List.flatten [wM cT g b u_mo]) H → va_S A s.heap H locs → lv_has ls 5 [(3, .int z38)] → W p l e rm_X5_orderAt s m args below meth c H locs 0 0 Q (F0 m 47 ls [])) → W p l e rm_X5_orderAt s m args below meth c H locs 0 0 Q (F0 m 14 ls []) := by
    refine lq_2_ind (F := lb_X5_orderAt_14 fu u_mo o21) (fun rec ih v36 v37 z38 hf H locs ls hP hS hl kx => ?_)
    unfold lb_X5_orderAt_14 at hf
    refine lv_iload hx hb dX5_orderAt_14 (lv_at hl 3 rfl) ?_
    refine lv_iconst (v := 3) hx hb dX5_orderAt_16 (by decide) ?_
    refine lv_icmp_ge (tgt := 47) hx hb dX5_orderAt_17 (by decide) (fun c40 => ?_) (fun c40 => ?_)
    · replace hf := it_t hf c40
      obtain rfl := Option.some.inj hf
      exact kx _ _ _ hP hS (lv_sub hl [2] rfl)
    · replace hf := it_f hf c40
      refine lv_iload_n hx hb dX5_orderAt_20 rfl (lv_at hl 2 rfl) ?_
      refine lv_iload_n hx hb dX5_orderAt_21 rfl (lv_at hl 1 rfl) ?_
      refine lv_aload_n hx hb dX5_orderAt_22 rfl (lv_at hl 0 rfl) ?_
      refine va_get (ci := 5) (v := .ref (g (b + 1))) (C := RX5) (T := TX5) (N := 12) hx hb hts iw_X5_orderAt_X5 hown hK hP 0 rfl rfl 0 (by decide) (hts (.fieldLink RX5 7 "BallastTrackModel" "s" "[I") (List.mem_of_getElem? (i := 1) rfl)) (fun _ h9 => h9) rfl dX5_orderAt_23 ?_
      refine lv_iconst (v := 4) hx hb dX5_orderAt_26 (by decide) ?_
      refine lv_iload hx hb dX5_orderAt_27 (lv_at hl 3 rfl) ?_
      refine lv_iadd hx hb dX5_orderAt_29 ?_
      refine lv_topi (fun x41 ex41 => ?_)
      replace hf := nm_i hf ex41
      obtain ⟨hi42, hf⟩ := ix_i hf
      refine va_iald hx hb hK hP 1 0 rfl rfl hi42 dX5_orderAt_30 ?_
      refine lv_topi (fun x43 ex43 => ?_)
      replace hf := nm_i hf ex43
      obtain ⟨K39_48, eK39_48, hf⟩ := jn_i hf
      have hK39_48 : ∀ (x45 : Int32) (H : Heap) (locs : List Loc) (ls : Array Slot), K39_48 x45 = some z38 → va_P D vwCl (List.flatten [wM cT g b u_mo]) H → va_S A s.heap H locs → lv_has ls 5 [(0, .ref (g b)), (2, .int o21), (4, .int v37)] → W p l e rm_X5_orderAt s m args below meth c H locs 0 0 Q (F0 m 39 ls [.int x45, .int v36]) := by
        intro x45 H locs ls hf hP hS hl
        rw [eK39_48] at hf
        refine lv_iadd hx hb dX5_orderAt_39 ?_
        refine lv_topi (fun x49 ex49 => ?_)
        replace hf := nm_i hf ex49
        refine lv_istore_n (lv' := [(3, .int x49), (0, .ref (g b)), (2, .int o21), (4, .int v37)]) hx hb dX5_orderAt_40 rfl hl (by decide) rfl (fun ls hl => ?_)
        obtain ⟨x50, ex50⟩ : ∃ z : Int32, z = v37 + (1 : Int32) := ⟨_, rfl⟩
        replace hf := nm_i hf ex50
        refine lv_iinc (v := x50) (lv' := [(4, .int x50), (3, .int x49), (0, .ref (g b)), (2, .int o21)]) hx hb dX5_orderAt_41 hl (k := 3) rfl (by rw [ex50]; rfl) (by decide) rfl (fun ls hl => ?_)
        refine lv_goto (tgt := 14) hx hb dX5_orderAt_44 (by decide) ?_
        exact ih _ _ _ hf _ _ _ hP hS (lv_sub hl [2, 3, 1, 0] rfl) kx
      clear eK39_48
      refine lv_icmp_le (tgt := 38) hx hb dX5_orderAt_31 (by decide) (fun c51 => ?_) (fun c51 => ?_)
      · replace hf := it_t hf c51
        refine lv_iconst (v := 0) hx hb dX5_orderAt_38 (by decide) ?_
        exact hK39_48 _ _ _ _ hf hP hS (lv_sub hl [0, 1, 3] rfl)
      · replace hf := it_f hf c51
        refine lv_iconst (v := 1) hx hb dX5_orderAt_34 (by decide) ?_
        refine lv_goto (tgt := 39) hx hb dX5_orderAt_35 (by decide) ?_
        exact hK39_48 _ _ _ _ hf hP hS (lv_sub hl [0, 1, 3] rfl)
  refine hL14 fu _ _ _ hz39 _ _ _ hP hS (lv_sub hl [3, 2, 1, 0] rfl) (fun H locs ls hP hS hl => ?_)
  refine lv_iload_n hx hb dX5_orderAt_47 rfl (lv_at hl 0 rfl) ?_
  obtain rfl := Option.some.inj hf
  subst hQ
  exact en_i hx hb hr hP hS hlocks dX5_orderAt_48
theorem iw_X5_order_X5 : ∀ w ∈ u_ws RX5 TX5 12, w ∈ wsX5_order := by decide +kernel
def lb_X5_order_4 (fu : Nat) (u_mo : TM) (rec : Int32 → Int32 → Option (Int32)) (v20 : Int32) (v21 : Int32) : Option (Int32) :=
nm (M_ss u_mo 0) fun (x24 : Int32) =>
if x24 ≤ v21 then (
some (v20)
)
else (
bd (f_X5_orderAt fu u_mo v21) fun (o26 : Int32) =>
bd (f_X5_greater fu  v20 o26) fun (o27 : Int32) =>
nm (v21 + (1 : Int32)) fun (x28 : Int32) =>
rec o27 x28
)

def lf_X5_order_4 (fu : Nat) (u_mo : TM) : Nat → Int32 → Int32 → Option (Int32) := lq_2 (lb_X5_order_4 fu u_mo)
def f_X5_order (fu : Nat) (u_mo : TM)  : Option (Int32) :=
bd (lf_X5_order_4 fu u_mo fu ((0 : Int32)) ((0 : Int32))) fun (z23 : Int32) =>
some (z23)

abbrev rm_X5_order : Room := { frames := 2, cells := 0, slots := 0, locals := 46 }
set_option maxHeartbeats 4000000 in
set_option maxRecDepth 100000 in
theorem c_X5_order (l : Launch) (D : va_G) (cT : Nat → ClassId) (g : Nat → Nat) (b : Nat) (fu : Nat) (u_mo : TM)  (o : Int32) (hf : f_X5_order fu u_mo  = some o) (sz : Nat) : Met l yX5_order wsX5_order rm_X5_order (va_Pc [.ref (g b)] (PRE D cT sz (List.flatten [wM cT g b u_mo]))) (QI D o (List.flatten [wM cT g b u_mo]) (va_A (List.flatten [wM cT g b u_mo]) sz)) 0 0 (va_A (List.flatten [wM cT g b u_mo]) sz) := by
  refine Met.ofW (cc := cX5_order) (maxL := 3) (ret := (some .int)) (by decide) rfl ?_
  intro p e s m args below meth c s₁ B0 hml hv
  obtain ⟨hav, hsz, hP, hK, hD, hN, hZ⟩ := hv
  have hx := B0.exec
  have hb := B0.bytes
  have hr := B0.returns
  have hts := atoms_spec (ws := wsX5_order) B0.pre
  have hown : s.vm.findClass RX5 = some m.cls := findClass_of_methodNamed B0.named
  have hlocks := B0.notSynchronized
  subst hsz
  have hD := hD.self (sz := s.heap.size)
  have hA : ∀ q : Nat, s.heap.size ≤ q → va_A (List.flatten [wM cT g b u_mo]) s.heap.size q := fun q h => Or.inr h
  generalize va_A (List.flatten [wM cT g b u_mo]) s.heap.size = A at hD hZ hA ⊢
  have hS : va_S A s.heap s.heap [] := va_S.rf
  have hl := lv_entry ([.ref (g b)]) (n := 3) (Nat.le_of_ble_eq_true rfl)
  rw [hav]
  rw [lg_entry_eq]
  generalize (lg_sl ([.ref (g b)]) ++ List.replicate (3 - (lg_sl ([.ref (g b)])).length) Slot.unset).toArray = ls at hl ⊢
  have hl : lv_has ls 3 [(0, .ref (g b))] := hl
  rw [← hav]
  generalize hQ : MQ below _ _ _ _ _ _ = Q
  show W p l e rm_X5_order s m args below meth c s.heap [] 0 0 Q (F0 m 0 ls [])
  unfold f_X5_order at hf
  refine lv_iconst (v := 0) hx hb dX5_order_0 (by decide) ?_
  refine lv_istore_n (lv' := [(1, .int ((0 : Int32))), (0, .ref (g b))]) hx hb dX5_order_1 rfl hl (by decide) rfl (fun ls hl => ?_)
  refine lv_iconst (v := 0) hx hb dX5_order_2 (by decide) ?_
  refine lv_istore_n (lv' := [(2, .int ((0 : Int32))), (1, .int ((0 : Int32))), (0, .ref (g b))]) hx hb dX5_order_3 rfl hl (by decide) rfl (fun ls hl => ?_)
  obtain ⟨z23, hz23, hf⟩ := bd_i hf
  have hL4 : ∀ (n : Nat) (v20 : Int32) (v21 : Int32) (z22 : Int32), lf_X5_order_4 fu u_mo n v20 v21 = some z22 → ∀ (H : Heap) (locs : List Loc) (ls : Array Slot), va_P D vwCl (List.flatten [wM cT g b u_mo]) H → va_S A s.heap H locs → lv_has ls 3 [(0, .ref (g b)), (1, .int v20), (2, .int v21)] → (∀ (H : Heap) (locs : List Loc) (ls : Array Slot), va_P D vwCl (List.flatten [wM cT g b u_mo]) H → va_S A s.heap H locs → lv_has ls 3 [(1, .int z22)] → W p l e rm_X5_order s m args below meth c H locs 0 0 Q (F0 m 30 ls [])) → W p l e rm_X5_order s m args below meth c H locs 0 0 Q (F0 m 4 ls []) := by
    refine lq_2_ind (F := lb_X5_order_4 fu u_mo) (fun rec ih v20 v21 z22 hf H locs ls hP hS hl kx => ?_)
    unfold lb_X5_order_4 at hf
    refine lv_iload_n hx hb dX5_order_4 rfl (lv_at hl 2 rfl) ?_
    refine lv_aload_n hx hb dX5_order_5 rfl (lv_at hl 0 rfl) ?_
    refine va_get (ci := 5) (v := .ref (g (b + 1))) (C := RX5) (T := TX5) (N := 12) hx hb hts iw_X5_order_X5 hown hK hP 0 rfl rfl 0 (by decide) (hts (.fieldLink RX5 7 "BallastTrackModel" "s" "[I") (List.mem_of_getElem? (i := 1) rfl)) (fun _ h9 => h9) rfl dX5_order_6 ?_
    refine lv_iconst (v := 0) hx hb dX5_order_9 (by decide) ?_
    refine va_iald hx hb hK hP 1 0 rfl rfl (by unfold vp_in; decide) dX5_order_10 ?_
    refine lv_topi (fun x24 ex24 => ?_)
    replace hf := nm_i hf ex24
    refine lv_icmp_ge (tgt := 30) hx hb dX5_order_11 (by decide) (fun c25 => ?_) (fun c25 => ?_)
    · replace hf := it_t hf c25
      obtain rfl := Option.some.inj hf
      exact kx _ _ _ hP hS (lv_sub hl [1] rfl)
    · replace hf := it_f hf c25
      refine lv_iload_n hx hb dX5_order_14 rfl (lv_at hl 1 rfl) ?_
      refine lv_aload_n hx hb dX5_order_15 rfl (lv_at hl 0 rfl) ?_
      refine lv_iload_n hx hb dX5_order_16 rfl (lv_at hl 2 rfl) ?_
      obtain ⟨o26, ho26, hf⟩ := bd_i hf
      refine cl_i [0] [] [wM cT g b u_mo] hP (va_D_adr hD rfl) hA hS (va_runV (As := [.int v21]) (rest := [.int v20]) ⟨hx, hb, hml, hown, hts⟩ (c_X5_orderAt l D cT g b fu u_mo v21 o26 ho26 _) (cwV 1 hts gX5_order_X5_orderAt rfl rfl rfl (by decide +kernel) ⟨Nat.le_of_ble_eq_true rfl, Nat.le_of_ble_eq_true rfl⟩) ⟨PRE_blind, va_recv hK hP (ci := 5) (q0 := 0) rfl rfl, PRE_ok [0] (by decide) hP (va_D_adr hD rfl) hA hS hK hN hZ⟩ rfl rfl hl.1 rfl (lv_room (Nat.le_of_ble_eq_true rfl)) dX5_order_17 ⟨Nat.le_of_ble_eq_true rfl, Nat.le_of_ble_eq_true rfl⟩) rfl 1 rfl (by decide) (by decide) (fun H locs hP hS => ?_)
      obtain ⟨o27, ho27, hf⟩ := bd_i hf
      refine cl_i [] [0] [wM cT g b u_mo] hP (va_D_adr hD rfl) hA hS (va_runS (As := [.int v20, .int o26]) (rest := []) ⟨hx, hb, hml, hown, hts⟩ (c_X5_greater l D cT g  fu  v20 o26 o27 ho27 _) (va_cwS 2 hts gX5_order_X5_greater rfl rfl rfl (by decide +kernel) ⟨Nat.le_of_ble_eq_true rfl, Nat.le_of_ble_eq_true rfl⟩) ⟨PRE_blind, PRE_ok [] (by decide) hP (va_D_adr hD rfl) hA hS hK hN hZ⟩ rfl rfl hl.1 rfl (lv_room (Nat.le_of_ble_eq_true rfl)) dX5_order_20 ⟨Nat.le_of_ble_eq_true rfl, Nat.le_of_ble_eq_true rfl⟩) rfl 1 rfl (by decide) (by decide) (fun H locs hP hS => ?_)
      refine lv_istore_n (lv' := [(1, .int o27), (0, .ref (g b)), (2, .int v21)]) hx hb dX5_order_23 rfl hl (by decide) rfl (fun ls hl => ?_)
      obtain ⟨x28, ex28⟩ : ∃ z : Int32, z = v21 + (1 : Int32) := ⟨_, rfl⟩
      replace hf := nm_i hf ex28
      refine lv_iinc (v := x28) (lv' := [(2, .int x28), (1, .int o27), (0, .ref (g b))]) hx hb dX5_order_24 hl (k := 2) rfl (by rw [ex28]; rfl) (by decide) rfl (fun ls hl => ?_)
      refine lv_goto (tgt := 4) hx hb dX5_order_27 (by decide) ?_
      exact ih _ _ _ hf _ _ _ hP hS (lv_sub hl [2, 1, 0] rfl) kx
  refine hL4 fu _ _ _ hz23 _ _ _ hP hS (lv_sub hl [2, 1, 0] rfl) (fun H locs ls hP hS hl => ?_)
  refine lv_iload_n hx hb dX5_order_30 rfl (lv_at hl 0 rfl) ?_
  obtain rfl := Option.some.inj hf
  subst hQ
  exact en_i hx hb hr hP hS hlocks dX5_order_31
def lb_X5_nearest_4 (fu : Nat) (u_mo : TM) (p1 : Int32) (rec : Int32 → Option (Int32)) (v21 : Int32) : Option (Int32) :=
bd (f_X5_isSleeper fu u_mo v21) fun (o24 : Bool) =>
if bI o24 = 0 then (
some (v21)
)
else (
bd (f_X5_hangs fu u_mo v21) fun (o26 : Bool) =>
if bI o26 = 0 then (
some (v21)
)
else (
nm (v21 + p1) fun (x28 : Int32) =>
rec x28
)
)

def lf_X5_nearest_4 (fu : Nat) (u_mo : TM) (p1 : Int32) : Nat → Int32 → Option (Int32) := lq_1 (lb_X5_nearest_4 fu u_mo p1)
def f_X5_nearest (fu : Nat) (u_mo : TM) (p0 : Int32) (p1 : Int32) : Option (Int32) :=
nm (p0 + p1) fun (x13 : Int32) =>
bd (lf_X5_nearest_4 fu u_mo p1 fu x13) fun (z23 : Int32) =>
bd (f_X5_isSleeper fu u_mo z23) fun (o29 : Bool) =>
if bI o29 = 0 then (
some ((-1 : Int32))
)
else (
some (z23)
)

abbrev rm_X5_nearest : Room := { frames := 2, cells := 0, slots := 0, locals := 43 }
set_option maxHeartbeats 4000000 in
set_option maxRecDepth 100000 in
theorem c_X5_nearest (l : Launch) (D : va_G) (cT : Nat → ClassId) (g : Nat → Nat) (b : Nat) (fu : Nat) (u_mo : TM) (p0 : Int32) (p1 : Int32) (o : Int32) (hf : f_X5_nearest fu u_mo p0 p1 = some o) (sz : Nat) : Met l yX5_nearest wsX5_nearest rm_X5_nearest (va_Pc [.ref (g b), .int p0, .int p1] (PRE D cT sz (List.flatten [wM cT g b u_mo]))) (QI D o (List.flatten [wM cT g b u_mo]) (va_A (List.flatten [wM cT g b u_mo]) sz)) 0 0 (va_A (List.flatten [wM cT g b u_mo]) sz) := by
  refine Met.ofW (cc := cX5_nearest) (maxL := 4) (ret := (some .int)) (by decide) rfl ?_
  intro p e s m args below meth c s₁ B0 hml hv
  obtain ⟨hav, hsz, hP, hK, hD, hN, hZ⟩ := hv
  have hx := B0.exec
  have hb := B0.bytes
  have hr := B0.returns
  have hts := atoms_spec (ws := wsX5_nearest) B0.pre
  have hown : s.vm.findClass RX5 = some m.cls := findClass_of_methodNamed B0.named
  have hlocks := B0.notSynchronized
  subst hsz
  have hD := hD.self (sz := s.heap.size)
  have hA : ∀ q : Nat, s.heap.size ≤ q → va_A (List.flatten [wM cT g b u_mo]) s.heap.size q := fun q h => Or.inr h
  generalize va_A (List.flatten [wM cT g b u_mo]) s.heap.size = A at hD hZ hA ⊢
  have hS : va_S A s.heap s.heap [] := va_S.rf
  have hl := lv_entry ([.ref (g b), .int p0, .int p1]) (n := 4) (Nat.le_of_ble_eq_true rfl)
  rw [hav]
  rw [lg_entry_eq]
  generalize (lg_sl ([.ref (g b), .int p0, .int p1]) ++ List.replicate (4 - (lg_sl ([.ref (g b), .int p0, .int p1])).length) Slot.unset).toArray = ls at hl ⊢
  have hl : lv_has ls 4 [(0, .ref (g b)), (1, .int p0), (2, .int p1)] := hl
  rw [← hav]
  generalize hQ : MQ below _ _ _ _ _ _ = Q
  show W p l e rm_X5_nearest s m args below meth c s.heap [] 0 0 Q (F0 m 0 ls [])
  unfold f_X5_nearest at hf
  refine lv_iload_n hx hb dX5_nearest_0 rfl (lv_at hl 1 rfl) ?_
  refine lv_iload_n hx hb dX5_nearest_1 rfl (lv_at hl 2 rfl) ?_
  refine lv_iadd hx hb dX5_nearest_2 ?_
  refine lv_topi (fun x13 ex13 => ?_)
  replace hf := nm_i hf ex13
  refine lv_istore_n (lv' := [(3, .int x13), (0, .ref (g b)), (1, .int p0), (2, .int p1)]) hx hb dX5_nearest_3 rfl hl (by decide) rfl (fun ls hl => ?_)
  obtain ⟨z23, hz23, hf⟩ := bd_i hf
  have hL4 : ∀ (n : Nat) (v21 : Int32) (z22 : Int32), lf_X5_nearest_4 fu u_mo p1 n v21 = some z22 → ∀ (H : Heap) (locs : List Loc) (ls : Array Slot), va_P D vwCl (List.flatten [wM cT g b u_mo]) H → va_S A s.heap H locs → lv_has ls 4 [(0, .ref (g b)), (2, .int p1), (3, .int v21)] → (∀ (H : Heap) (locs : List Loc) (ls : Array Slot), va_P D vwCl (List.flatten [wM cT g b u_mo]) H → va_S A s.heap H locs → lv_has ls 4 [(0, .ref (g b)), (3, .int z22)] → W p l e rm_X5_nearest s m args below meth c H locs 0 0 Q (F0 m 27 ls [])) → W p l e rm_X5_nearest s m args below meth c H locs 0 0 Q (F0 m 4 ls []) := by
    refine lq_1_ind (F := lb_X5_nearest_4 fu u_mo p1) (fun rec ih v21 z22 hf H locs ls hP hS hl kx => ?_)
    unfold lb_X5_nearest_4 at hf
    refine lv_aload_n hx hb dX5_nearest_4 rfl (lv_at hl 0 rfl) ?_
    refine lv_iload_n hx hb dX5_nearest_5 rfl (lv_at hl 2 rfl) ?_
    obtain ⟨o24, ho24, hf⟩ := bd_i hf
    refine cl_i [0] [] [wM cT g b u_mo] hP (va_D_adr hD rfl) hA hS (va_runV (As := [.int v21]) (rest := []) ⟨hx, hb, hml, hown, hts⟩ (c_X5_isSleeper l D cT g b fu u_mo v21 o24 ho24 _) (cwV 1 hts gX5_nearest_X5_isSleeper rfl rfl rfl (by decide +kernel) ⟨Nat.le_of_ble_eq_true rfl, Nat.le_of_ble_eq_true rfl⟩) ⟨PRE_blind, va_recv hK hP (ci := 5) (q0 := 0) rfl rfl, PRE_ok [0] (by decide) hP (va_D_adr hD rfl) hA hS hK hN hZ⟩ rfl rfl hl.1 rfl (lv_room (Nat.le_of_ble_eq_true rfl)) dX5_nearest_6 ⟨Nat.le_of_ble_eq_true rfl, Nat.le_of_ble_eq_true rfl⟩) rfl 1 rfl (by decide) (by decide) (fun H locs hP hS => ?_)
    refine lv_if_eq (tgt := 27) hx hb dX5_nearest_9 (by decide) (fun c25 => ?_) (fun c25 => ?_)
    · replace hf := it_t hf c25
      obtain rfl := Option.some.inj hf
      exact kx _ _ _ hP hS (lv_sub hl [0, 2] rfl)
    · replace hf := it_f hf c25
      refine lv_aload_n hx hb dX5_nearest_12 rfl (lv_at hl 0 rfl) ?_
      refine lv_iload_n hx hb dX5_nearest_13 rfl (lv_at hl 2 rfl) ?_
      obtain ⟨o26, ho26, hf⟩ := bd_i hf
      refine cl_i [0] [] [wM cT g b u_mo] hP (va_D_adr hD rfl) hA hS (va_runV (As := [.int v21]) (rest := []) ⟨hx, hb, hml, hown, hts⟩ (c_X5_hangs l D cT g b fu u_mo v21 o26 ho26 _) (cwV 1 hts gX5_nearest_X5_hangs rfl rfl rfl (by decide +kernel) ⟨Nat.le_of_ble_eq_true rfl, Nat.le_of_ble_eq_true rfl⟩) ⟨PRE_blind, va_recv hK hP (ci := 5) (q0 := 0) rfl rfl, PRE_ok [0] (by decide) hP (va_D_adr hD rfl) hA hS hK hN hZ⟩ rfl rfl hl.1 rfl (lv_room (Nat.le_of_ble_eq_true rfl)) dX5_nearest_14 ⟨Nat.le_of_ble_eq_true rfl, Nat.le_of_ble_eq_true rfl⟩) rfl 1 rfl (by decide) (by decide) (fun H locs hP hS => ?_)
      refine lv_if_eq (tgt := 27) hx hb dX5_nearest_17 (by decide) (fun c27 => ?_) (fun c27 => ?_)
      · replace hf := it_t hf c27
        obtain rfl := Option.some.inj hf
        exact kx _ _ _ hP hS (lv_sub hl [0, 2] rfl)
      · replace hf := it_f hf c27
        refine lv_iload_n hx hb dX5_nearest_20 rfl (lv_at hl 2 rfl) ?_
        refine lv_iload_n hx hb dX5_nearest_21 rfl (lv_at hl 1 rfl) ?_
        refine lv_iadd hx hb dX5_nearest_22 ?_
        refine lv_topi (fun x28 ex28 => ?_)
        replace hf := nm_i hf ex28
        refine lv_istore_n (lv' := [(3, .int x28), (0, .ref (g b)), (2, .int p1)]) hx hb dX5_nearest_23 rfl hl (by decide) rfl (fun ls hl => ?_)
        refine lv_goto (tgt := 4) hx hb dX5_nearest_24 (by decide) ?_
        exact ih _ _ hf _ _ _ hP hS (lv_sub hl [1, 2, 0] rfl) kx
  refine hL4 fu _ _ hz23 _ _ _ hP hS (lv_sub hl [1, 3, 0] rfl) (fun H locs ls hP hS hl => ?_)
  refine lv_aload_n hx hb dX5_nearest_27 rfl (lv_at hl 0 rfl) ?_
  refine lv_iload_n hx hb dX5_nearest_28 rfl (lv_at hl 1 rfl) ?_
  obtain ⟨o29, ho29, hf⟩ := bd_i hf
  refine cl_i [0] [] [wM cT g b u_mo] hP (va_D_adr hD rfl) hA hS (va_runV (As := [.int z23]) (rest := []) ⟨hx, hb, hml, hown, hts⟩ (c_X5_isSleeper l D cT g b fu u_mo z23 o29 ho29 _) (cwV 1 hts gX5_nearest_X5_isSleeper rfl rfl rfl (by decide +kernel) ⟨Nat.le_of_ble_eq_true rfl, Nat.le_of_ble_eq_true rfl⟩) ⟨PRE_blind, va_recv hK hP (ci := 5) (q0 := 0) rfl rfl, PRE_ok [0] (by decide) hP (va_D_adr hD rfl) hA hS hK hN hZ⟩ rfl rfl hl.1 rfl (lv_room (Nat.le_of_ble_eq_true rfl)) dX5_nearest_29 ⟨Nat.le_of_ble_eq_true rfl, Nat.le_of_ble_eq_true rfl⟩) rfl 1 rfl (by decide) (by decide) (fun H locs hP hS => ?_)
  refine lv_if_eq (tgt := 39) hx hb dX5_nearest_32 (by decide) (fun c30 => ?_) (fun c30 => ?_)
  · replace hf := it_t hf c30
    refine lv_iconst (v := -1) hx hb dX5_nearest_39 (by decide) ?_
    obtain rfl := Option.some.inj hf
    subst hQ
    exact en_i hx hb hr hP hS hlocks dX5_nearest_40
  · replace hf := it_f hf c30
    refine lv_iload_n hx hb dX5_nearest_35 rfl (lv_at hl 1 rfl) ?_
    refine lv_goto (tgt := 40) hx hb dX5_nearest_36 (by decide) ?_
    obtain rfl := Option.some.inj hf
    subst hQ
    exact en_i hx hb hr hP hS hlocks dX5_nearest_40
theorem iw_X5_laysLoads_X5 : ∀ w ∈ u_ws RX5 TX5 12, w ∈ wsX5_laysLoads := by decide +kernel
def lb_X5_laysLoads_2 (fu : Nat)  (rec : Int32 → TM → Option (TM)) (v127 : Int32) (u128 : TM) : Option (TM) :=
nm (M_ss u128 0) fun (x131 : Int32) =>
if x131 ≤ v127 then (
some (u128)
)
else (
bd (f_X5_hangs fu u128 v127) fun (o133 : Bool) =>
jn (fun (x135 : Int32) =>
ix v127 60 <|
nm (M_lo_ u128 (upd (M_lo u128) v127.toNatClampNeg x135)) fun (u141 : TM) =>
nm (v127 + (1 : Int32)) fun (x142 : Int32) =>
rec x142 u141
) fun K30_139 =>
if bI o133 = 0 then (
K30_139 ((2 : Int32))
)
else (
K30_139 ((0 : Int32))
)
)

def lf_X5_laysLoads_2 (fu : Nat)  : Nat → Int32 → TM → Option (TM) := lq_2 (lb_X5_laysLoads_2 fu )
def lb_X5_laysLoads_39 (fu : Nat)  (rec : Int32 → TM → Option (TM)) (v236 : Int32) (u237 : TM) : Option (TM) :=
nm (M_ss u237 0) fun (x240 : Int32) =>
if x240 ≤ v236 then (
some (u237)
)
else (
bd (f_X5_hangs fu u237 v236) fun (o242 : Bool) =>
jn (fun (u285 : TM) =>
nm (v236 + (1 : Int32)) fun (x288 : Int32) =>
rec x288 u285
) fun K107_287 =>
if bI o242 = 0 then (
K107_287 u237
)
else (
bd (f_X5_nearest fu u237 v236 ((-1 : Int32))) fun (o290 : Int32) =>
bd (f_X5_nearest fu u237 v236 ((1 : Int32))) fun (o291 : Int32) =>
jn (fun (x293 : Int32) =>
ix x293 60 <|
nm ((M_lo u237) x293.toNatClampNeg) fun (x314 : Int32) =>
nm (x314 + (1 : Int32)) fun (x315 : Int32) =>
ix x293 60 <|
nm (M_lo_ u237 (upd (M_lo u237) x293.toNatClampNeg x315)) fun (u317 : TM) =>
jn (fun (x319 : Int32) =>
ix x319 60 <|
nm ((M_lo u317) x319.toNatClampNeg) fun (x327 : Int32) =>
nm (x327 + (1 : Int32)) fun (x328 : Int32) =>
ix x319 60 <|
nm (M_lo_ u317 (upd (M_lo u317) x319.toNatClampNeg x328)) fun (u330 : TM) =>
K107_287 u330
) fun K102_325 =>
if 0 ≤ o291 then (
K102_325 o291
)
else (
K102_325 o290
)
) fun K84_312 =>
if 0 ≤ o290 then (
K84_312 o290
)
else (
K84_312 o291
)
)
)

def lf_X5_laysLoads_39 (fu : Nat)  : Nat → Int32 → TM → Option (TM) := lq_2 (lb_X5_laysLoads_39 fu )
def f_X5_laysLoads (fu : Nat) (u_mo : TM)  : Option (TM) :=
bd (lf_X5_laysLoads_2 fu  fu ((0 : Int32)) u_mo) fun (z130 : TM) =>
bd (lf_X5_laysLoads_39 fu  fu ((0 : Int32)) z130) fun (z239 : TM) =>
some (z239)

abbrev rm_X5_laysLoads : Room := { frames := 3, cells := 0, slots := 0, locals := 66 }
set_option maxHeartbeats 4000000 in
set_option maxRecDepth 100000 in
theorem c_X5_laysLoads (l : Launch) (D : va_G) (cT : Nat → ClassId) (g : Nat → Nat) (b : Nat) (fu : Nat) (u_mo : TM)  (o : TM) (hf : f_X5_laysLoads fu u_mo  = some o) (sz : Nat) : Met l yX5_laysLoads wsX5_laysLoads rm_X5_laysLoads (va_Pc [.ref (g b)] (PRE D cT sz (List.flatten [wM cT g b u_mo]))) (QV D (List.flatten [wM cT g b o]) (va_A (List.flatten [wM cT g b u_mo]) sz)) 0 0 (va_A (List.flatten [wM cT g b u_mo]) sz) := by
  refine Met.ofW (cc := cX5_laysLoads) (maxL := 4) (ret := none) (by decide) rfl ?_
  intro p e s m args below meth c s₁ B0 hml hv
  obtain ⟨hav, hsz, hP, hK, hD, hN, hZ⟩ := hv
  have hx := B0.exec
  have hb := B0.bytes
  have hr := B0.returns
  have hts := atoms_spec (ws := wsX5_laysLoads) B0.pre
  have hown : s.vm.findClass RX5 = some m.cls := findClass_of_methodNamed B0.named
  have hlocks := B0.notSynchronized
  subst hsz
  have hD := hD.self (sz := s.heap.size)
  have hA : ∀ q : Nat, s.heap.size ≤ q → va_A (List.flatten [wM cT g b u_mo]) s.heap.size q := fun q h => Or.inr h
  generalize va_A (List.flatten [wM cT g b u_mo]) s.heap.size = A at hD hZ hA ⊢
  have hS : va_S A s.heap s.heap [] := va_S.rf
  have hl := lv_entry ([.ref (g b)]) (n := 4) (Nat.le_of_ble_eq_true rfl)
  rw [hav]
  rw [lg_entry_eq]
  generalize (lg_sl ([.ref (g b)]) ++ List.replicate (4 - (lg_sl ([.ref (g b)])).length) Slot.unset).toArray = ls at hl ⊢
  have hl : lv_has ls 4 [(0, .ref (g b))] := hl
  rw [← hav]
  generalize hQ : MQ below _ _ _ _ _ _ = Q
  show W p l e rm_X5_laysLoads s m args below meth c s.heap [] 0 0 Q (F0 m 0 ls [])
  unfold f_X5_laysLoads at hf
  refine lv_iconst (v := 0) hx hb dX5_laysLoads_0 (by decide) ?_
  refine lv_istore_n (lv' := [(1, .int ((0 : Int32))), (0, .ref (g b))]) hx hb dX5_laysLoads_1 rfl hl (by decide) rfl (fun ls hl => ?_)
  obtain ⟨z130, hz130, hf⟩ := bd_i hf
  have hL2 : ∀ (n : Nat) (v127 : Int32) (u128 : TM) (z129 : TM), lf_X5_laysLoads_2 fu  n v127 u128 = some z129 → ∀ (H : Heap) (locs : List Loc) (ls : Array Slot), va_P D vwCl (List.flatten [wM cT g b u128]) H → va_S A s.heap H locs → lv_has ls 4 [(0, .ref (g b)), (1, .int v127)] → (∀ (H : Heap) (locs : List Loc) (ls : Array Slot), va_P D vwCl (List.flatten [wM cT g b z129]) H → va_S A s.heap H locs → lv_has ls 4 [(0, .ref (g b))] → W p l e rm_X5_laysLoads s m args below meth c H locs 0 0 Q (F0 m 37 ls [])) → W p l e rm_X5_laysLoads s m args below meth c H locs 0 0 Q (F0 m 2 ls []) := by
    refine lq_2_ind (F := lb_X5_laysLoads_2 fu ) (fun rec ih v127 u128 z129 hf H locs ls hP hS hl kx => ?_)
    unfold lb_X5_laysLoads_2 at hf
    refine lv_iload_n hx hb dX5_laysLoads_2 rfl (lv_at hl 1 rfl) ?_
    refine lv_aload_n hx hb dX5_laysLoads_3 rfl (lv_at hl 0 rfl) ?_
    refine va_get (ci := 5) (v := .ref (g (b + 1))) (C := RX5) (T := TX5) (N := 12) hx hb hts iw_X5_laysLoads_X5 hown hK hP 0 rfl rfl 0 (by decide) (hts (.fieldLink RX5 7 "BallastTrackModel" "s" "[I") (List.mem_of_getElem? (i := 1) rfl)) (fun _ h9 => h9) rfl dX5_laysLoads_4 ?_
    refine lv_iconst (v := 0) hx hb dX5_laysLoads_7 (by decide) ?_
    refine va_iald hx hb hK hP 1 0 rfl rfl (by unfold vp_in; decide) dX5_laysLoads_8 ?_
    refine lv_topi (fun x131 ex131 => ?_)
    replace hf := nm_i hf ex131
    refine lv_icmp_ge (tgt := 37) hx hb dX5_laysLoads_9 (by decide) (fun c132 => ?_) (fun c132 => ?_)
    · replace hf := it_t hf c132
      obtain rfl := Option.some.inj hf
      exact kx _ _ _ hP hS (lv_sub hl [0] rfl)
    · replace hf := it_f hf c132
      refine lv_aload_n hx hb dX5_laysLoads_12 rfl (lv_at hl 0 rfl) ?_
      refine va_get (ci := 5) (v := .ref (g (b + 7))) (C := RX5) (T := TX5) (N := 12) hx hb hts iw_X5_laysLoads_X5 hown hK hP 0 rfl rfl 9 (by decide) (hts (.fieldLink RX5 29 "BallastTrackModel" "load" "[I") (List.mem_of_getElem? (i := 2) rfl)) (fun _ h9 => h9) rfl dX5_laysLoads_13 ?_
      refine lv_iload_n hx hb dX5_laysLoads_16 rfl (lv_at hl 1 rfl) ?_
      refine lv_aload_n hx hb dX5_laysLoads_17 rfl (lv_at hl 0 rfl) ?_
      refine lv_iload_n hx hb dX5_laysLoads_18 rfl (lv_at hl 1 rfl) ?_
      obtain ⟨o133, ho133, hf⟩ := bd_i hf
      refine cl_i [0] [] [wM cT g b u128] hP (va_D_adr hD rfl) hA hS (va_runV (As := [.int v127]) (rest := [.int v127, .ref (g (b + 7))]) ⟨hx, hb, hml, hown, hts⟩ (c_X5_hangs l D cT g b fu u128 v127 o133 ho133 _) (cwV 1 hts gX5_laysLoads_X5_hangs rfl rfl rfl (by decide +kernel) ⟨Nat.le_of_ble_eq_true rfl, Nat.le_of_ble_eq_true rfl⟩) ⟨PRE_blind, va_recv hK hP (ci := 5) (q0 := 0) rfl rfl, PRE_ok [0] (by decide) hP (va_D_adr hD rfl) hA hS hK hN hZ⟩ rfl rfl hl.1 rfl (lv_room (Nat.le_of_ble_eq_true rfl)) dX5_laysLoads_19 ⟨Nat.le_of_ble_eq_true rfl, Nat.le_of_ble_eq_true rfl⟩) rfl 1 rfl (by decide) (by decide) (fun H locs hP hS => ?_)
      obtain ⟨K30_139, eK30_139, hf⟩ := jn_i hf
      have hK30_139 : ∀ (x135 : Int32) (H : Heap) (locs : List Loc) (ls : Array Slot), K30_139 x135 = some z129 → va_P D vwCl (List.flatten [wM cT g b u128]) H → va_S A s.heap H locs → lv_has ls 4 [(0, .ref (g b)), (1, .int v127)] → W p l e rm_X5_laysLoads s m args below meth c H locs 0 0 Q (F0 m 30 ls [.int x135, .int v127, .ref (g (b + 7))]) := by
        intro x135 H locs ls hf hP hS hl
        rw [eK30_139] at hf
        obtain ⟨hi140, hf⟩ := ix_i hf
        refine va_iast hx hb hK hP (va_D_adr hD rfl) hS 7 0 rfl rfl hi140 dX5_laysLoads_30 (fun H locs hP _ hS => ?_)
        obtain ⟨u141, eu141⟩ : ∃ z : TM, z = M_lo_ u128 (upd (M_lo u128) v127.toNatClampNeg x135) := ⟨_, rfl⟩
        replace hf := nm_i hf eu141
        have hP : va_P D vwCl (List.flatten [wM cT g b u141]) H := by rw [eu141]; exact hP
        obtain ⟨x142, ex142⟩ : ∃ z : Int32, z = v127 + (1 : Int32) := ⟨_, rfl⟩
        replace hf := nm_i hf ex142
        refine lv_iinc (v := x142) (lv' := [(1, .int x142), (0, .ref (g b))]) hx hb dX5_laysLoads_31 hl (k := 1) rfl (by rw [ex142]; rfl) (by decide) rfl (fun ls hl => ?_)
        refine lv_goto (tgt := 2) hx hb dX5_laysLoads_34 (by decide) ?_
        exact ih _ _ _ hf _ _ _ hP hS (lv_sub hl [1, 0] rfl) kx
      clear eK30_139
      refine lv_if_eq (tgt := 29) hx hb dX5_laysLoads_22 (by decide) (fun c143 => ?_) (fun c143 => ?_)
      · replace hf := it_t hf c143
        refine lv_iconst (v := 2) hx hb dX5_laysLoads_29 (by decide) ?_
        exact hK30_139 _ _ _ _ hf hP hS (lv_sub hl [0, 1] rfl)
      · replace hf := it_f hf c143
        refine lv_iconst (v := 0) hx hb dX5_laysLoads_25 (by decide) ?_
        refine lv_goto (tgt := 30) hx hb dX5_laysLoads_26 (by decide) ?_
        exact hK30_139 _ _ _ _ hf hP hS (lv_sub hl [0, 1] rfl)
  refine hL2 fu _ _ _ hz130 _ _ _ hP hS (lv_sub hl [1, 0] rfl) (fun H locs ls hP hS hl => ?_)
  refine lv_iconst (v := 0) hx hb dX5_laysLoads_37 (by decide) ?_
  refine lv_istore_n (lv' := [(1, .int ((0 : Int32))), (0, .ref (g b))]) hx hb dX5_laysLoads_38 rfl hl (by decide) rfl (fun ls hl => ?_)
  obtain ⟨z239, hz239, hf⟩ := bd_i hf
  have hL39 : ∀ (n : Nat) (v236 : Int32) (u237 : TM) (z238 : TM), lf_X5_laysLoads_39 fu  n v236 u237 = some z238 → ∀ (H : Heap) (locs : List Loc) (ls : Array Slot), va_P D vwCl (List.flatten [wM cT g b u237]) H → va_S A s.heap H locs → lv_has ls 4 [(0, .ref (g b)), (1, .int v236)] → (∀ (H : Heap) (locs : List Loc) (ls : Array Slot), va_P D vwCl (List.flatten [wM cT g b z238]) H → va_S A s.heap H locs → lv_has ls 4 [] → W p l e rm_X5_laysLoads s m args below meth c H locs 0 0 Q (F0 m 113 ls [])) → W p l e rm_X5_laysLoads s m args below meth c H locs 0 0 Q (F0 m 39 ls []) := by
    refine lq_2_ind (F := lb_X5_laysLoads_39 fu ) (fun rec ih v236 u237 z238 hf H locs ls hP hS hl kx => ?_)
    unfold lb_X5_laysLoads_39 at hf
    refine lv_iload_n hx hb dX5_laysLoads_39 rfl (lv_at hl 1 rfl) ?_
    refine lv_aload_n hx hb dX5_laysLoads_40 rfl (lv_at hl 0 rfl) ?_
    refine va_get (ci := 5) (v := .ref (g (b + 1))) (C := RX5) (T := TX5) (N := 12) hx hb hts iw_X5_laysLoads_X5 hown hK hP 0 rfl rfl 0 (by decide) (hts (.fieldLink RX5 7 "BallastTrackModel" "s" "[I") (List.mem_of_getElem? (i := 1) rfl)) (fun _ h9 => h9) rfl dX5_laysLoads_41 ?_
    refine lv_iconst (v := 0) hx hb dX5_laysLoads_44 (by decide) ?_
    refine va_iald hx hb hK hP 1 0 rfl rfl (by unfold vp_in; decide) dX5_laysLoads_45 ?_
    refine lv_topi (fun x240 ex240 => ?_)
    replace hf := nm_i hf ex240
    refine lv_icmp_ge (tgt := 113) hx hb dX5_laysLoads_46 (by decide) (fun c241 => ?_) (fun c241 => ?_)
    · replace hf := it_t hf c241
      obtain rfl := Option.some.inj hf
      exact kx _ _ _ hP hS (lv_sub hl [] rfl)
    · replace hf := it_f hf c241
      refine lv_aload_n hx hb dX5_laysLoads_49 rfl (lv_at hl 0 rfl) ?_
      refine lv_iload_n hx hb dX5_laysLoads_50 rfl (lv_at hl 1 rfl) ?_
      obtain ⟨o242, ho242, hf⟩ := bd_i hf
      refine cl_i [0] [] [wM cT g b u237] hP (va_D_adr hD rfl) hA hS (va_runV (As := [.int v236]) (rest := []) ⟨hx, hb, hml, hown, hts⟩ (c_X5_hangs l D cT g b fu u237 v236 o242 ho242 _) (cwV 1 hts gX5_laysLoads_X5_hangs rfl rfl rfl (by decide +kernel) ⟨Nat.le_of_ble_eq_true rfl, Nat.le_of_ble_eq_true rfl⟩) ⟨PRE_blind, va_recv hK hP (ci := 5) (q0 := 0) rfl rfl, PRE_ok [0] (by decide) hP (va_D_adr hD rfl) hA hS hK hN hZ⟩ rfl rfl hl.1 rfl (lv_room (Nat.le_of_ble_eq_true rfl)) dX5_laysLoads_51 ⟨Nat.le_of_ble_eq_true rfl, Nat.le_of_ble_eq_true rfl⟩) rfl 1 rfl (by decide) (by decide) (fun H locs hP hS => ?_)
      obtain ⟨K107_287, eK107_287, hf⟩ := jn_i hf
      have hK107_287 : ∀ (u285 : TM) (H : Heap) (locs : List Loc) (ls : Array Slot), K107_287 u285 = some z238 → va_P D vwCl (List.flatten [wM cT g b u285]) H → va_S A s.heap H locs → lv_has ls 4 [(0, .ref (g b)), (1, .int v236)] → W p l e rm_X5_laysLoads s m args below meth c H locs 0 0 Q (F0 m 107 ls []) := by
        intro u285 H locs ls hf hP hS hl
        rw [eK107_287] at hf
        obtain ⟨x288, ex288⟩ : ∃ z : Int32, z = v236 + (1 : Int32) := ⟨_, rfl⟩
        replace hf := nm_i hf ex288
        refine lv_iinc (v := x288) (lv' := [(1, .int x288), (0, .ref (g b))]) hx hb dX5_laysLoads_107 hl (k := 1) rfl (by rw [ex288]; rfl) (by decide) rfl (fun ls hl => ?_)
        refine lv_goto (tgt := 39) hx hb dX5_laysLoads_110 (by decide) ?_
        exact ih _ _ _ hf _ _ _ hP hS (lv_sub hl [1, 0] rfl) kx
      clear eK107_287
      refine lv_if_eq (tgt := 107) hx hb dX5_laysLoads_54 (by decide) (fun c289 => ?_) (fun c289 => ?_)
      · replace hf := it_t hf c289
        exact hK107_287 _ _ _ _ hf hP hS (lv_sub hl [0, 1] rfl)
      · replace hf := it_f hf c289
        refine lv_aload_n hx hb dX5_laysLoads_57 rfl (lv_at hl 0 rfl) ?_
        refine lv_iload_n hx hb dX5_laysLoads_58 rfl (lv_at hl 1 rfl) ?_
        refine lv_iconst (v := -1) hx hb dX5_laysLoads_59 (by decide) ?_
        obtain ⟨o290, ho290, hf⟩ := bd_i hf
        refine cl_i [0] [] [wM cT g b u237] hP (va_D_adr hD rfl) hA hS (va_runV (As := [.int v236, .int ((-1 : Int32))]) (rest := []) ⟨hx, hb, hml, hown, hts⟩ (c_X5_nearest l D cT g b fu u237 v236 ((-1 : Int32)) o290 ho290 _) (cwV 2 hts gX5_laysLoads_X5_nearest rfl rfl rfl (by decide +kernel) ⟨Nat.le_of_ble_eq_true rfl, Nat.le_of_ble_eq_true rfl⟩) ⟨PRE_blind, va_recv hK hP (ci := 5) (q0 := 0) rfl rfl, PRE_ok [0] (by decide) hP (va_D_adr hD rfl) hA hS hK hN hZ⟩ rfl rfl hl.1 rfl (lv_room (Nat.le_of_ble_eq_true rfl)) dX5_laysLoads_60 ⟨Nat.le_of_ble_eq_true rfl, Nat.le_of_ble_eq_true rfl⟩) rfl 1 rfl (by decide) (by decide) (fun H locs hP hS => ?_)
        refine lv_istore_n (lv' := [(2, .int o290), (0, .ref (g b)), (1, .int v236)]) hx hb dX5_laysLoads_63 rfl hl (by decide) rfl (fun ls hl => ?_)
        refine lv_aload_n hx hb dX5_laysLoads_64 rfl (lv_at hl 1 rfl) ?_
        refine lv_iload_n hx hb dX5_laysLoads_65 rfl (lv_at hl 2 rfl) ?_
        refine lv_iconst (v := 1) hx hb dX5_laysLoads_66 (by decide) ?_
        obtain ⟨o291, ho291, hf⟩ := bd_i hf
        refine cl_i [0] [] [wM cT g b u237] hP (va_D_adr hD rfl) hA hS (va_runV (As := [.int v236, .int ((1 : Int32))]) (rest := []) ⟨hx, hb, hml, hown, hts⟩ (c_X5_nearest l D cT g b fu u237 v236 ((1 : Int32)) o291 ho291 _) (cwV 2 hts gX5_laysLoads_X5_nearest rfl rfl rfl (by decide +kernel) ⟨Nat.le_of_ble_eq_true rfl, Nat.le_of_ble_eq_true rfl⟩) ⟨PRE_blind, va_recv hK hP (ci := 5) (q0 := 0) rfl rfl, PRE_ok [0] (by decide) hP (va_D_adr hD rfl) hA hS hK hN hZ⟩ rfl rfl hl.1 rfl (lv_room (Nat.le_of_ble_eq_true rfl)) dX5_laysLoads_67 ⟨Nat.le_of_ble_eq_true rfl, Nat.le_of_ble_eq_true rfl⟩) rfl 1 rfl (by decide) (by decide) (fun H locs hP hS => ?_)
        refine lv_istore_n (lv' := [(3, .int o291), (2, .int o290), (0, .ref (g b)), (1, .int v236)]) hx hb dX5_laysLoads_70 rfl hl (by decide) rfl (fun ls hl => ?_)
        refine lv_aload_n hx hb dX5_laysLoads_71 rfl (lv_at hl 2 rfl) ?_
        refine va_get (ci := 5) (v := .ref (g (b + 7))) (C := RX5) (T := TX5) (N := 12) hx hb hts iw_X5_laysLoads_X5 hown hK hP 0 rfl rfl 9 (by decide) (hts (.fieldLink RX5 29 "BallastTrackModel" "load" "[I") (List.mem_of_getElem? (i := 2) rfl)) (fun _ h9 => h9) rfl dX5_laysLoads_72 ?_
        refine lv_iload_n hx hb dX5_laysLoads_75 rfl (lv_at hl 1 rfl) ?_
        obtain ⟨K84_312, eK84_312, hf⟩ := jn_i hf
        have hK84_312 : ∀ (x293 : Int32) (H : Heap) (locs : List Loc) (ls : Array Slot), K84_312 x293 = some z238 → va_P D vwCl (List.flatten [wM cT g b u237]) H → va_S A s.heap H locs → lv_has ls 4 [(0, .ref (g b)), (1, .int v236), (2, .int o290), (3, .int o291)] → W p l e rm_X5_laysLoads s m args below meth c H locs 0 0 Q (F0 m 84 ls [.int x293, .ref (g (b + 7))]) := by
          intro x293 H locs ls hf hP hS hl
          rw [eK84_312] at hf
          refine lv_dup2_11 hx hb dX5_laysLoads_84 rfl rfl ?_
          obtain ⟨hi313, hf⟩ := ix_i hf
          refine va_iald hx hb hK hP 7 0 rfl rfl hi313 dX5_laysLoads_85 ?_
          refine lv_topi (fun x314 ex314 => ?_)
          replace hf := nm_i hf ex314
          refine lv_iconst (v := 1) hx hb dX5_laysLoads_86 (by decide) ?_
          refine lv_iadd hx hb dX5_laysLoads_87 ?_
          refine lv_topi (fun x315 ex315 => ?_)
          replace hf := nm_i hf ex315
          obtain ⟨hi316, hf⟩ := ix_i hf
          refine va_iast hx hb hK hP (va_D_adr hD rfl) hS 7 0 rfl rfl hi316 dX5_laysLoads_88 (fun H locs hP _ hS => ?_)
          obtain ⟨u317, eu317⟩ : ∃ z : TM, z = M_lo_ u237 (upd (M_lo u237) x293.toNatClampNeg x315) := ⟨_, rfl⟩
          replace hf := nm_i hf eu317
          have hP : va_P D vwCl (List.flatten [wM cT g b u317]) H := by rw [eu317]; exact hP
          refine lv_aload_n hx hb dX5_laysLoads_89 rfl (lv_at hl 0 rfl) ?_
          refine va_get (ci := 5) (v := .ref (g (b + 7))) (C := RX5) (T := TX5) (N := 12) hx hb hts iw_X5_laysLoads_X5 hown hK hP 0 rfl rfl 9 (by decide) (hts (.fieldLink RX5 29 "BallastTrackModel" "load" "[I") (List.mem_of_getElem? (i := 2) rfl)) (fun _ h9 => h9) rfl dX5_laysLoads_90 ?_
          refine lv_iload_n hx hb dX5_laysLoads_93 rfl (lv_at hl 3 rfl) ?_
          obtain ⟨K102_325, eK102_325, hf⟩ := jn_i hf
          have hK102_325 : ∀ (x319 : Int32) (H : Heap) (locs : List Loc) (ls : Array Slot), K102_325 x319 = some z238 → va_P D vwCl (List.flatten [wM cT g b u317]) H → va_S A s.heap H locs → lv_has ls 4 [(0, .ref (g b)), (1, .int v236)] → W p l e rm_X5_laysLoads s m args below meth c H locs 0 0 Q (F0 m 102 ls [.int x319, .ref (g (b + 7))]) := by
            intro x319 H locs ls hf hP hS hl
            rw [eK102_325] at hf
            refine lv_dup2_11 hx hb dX5_laysLoads_102 rfl rfl ?_
            obtain ⟨hi326, hf⟩ := ix_i hf
            refine va_iald hx hb hK hP 7 0 rfl rfl hi326 dX5_laysLoads_103 ?_
            refine lv_topi (fun x327 ex327 => ?_)
            replace hf := nm_i hf ex327
            refine lv_iconst (v := 1) hx hb dX5_laysLoads_104 (by decide) ?_
            refine lv_iadd hx hb dX5_laysLoads_105 ?_
            refine lv_topi (fun x328 ex328 => ?_)
            replace hf := nm_i hf ex328
            obtain ⟨hi329, hf⟩ := ix_i hf
            refine va_iast hx hb hK hP (va_D_adr hD rfl) hS 7 0 rfl rfl hi329 dX5_laysLoads_106 (fun H locs hP _ hS => ?_)
            obtain ⟨u330, eu330⟩ : ∃ z : TM, z = M_lo_ u317 (upd (M_lo u317) x319.toNatClampNeg x328) := ⟨_, rfl⟩
            replace hf := nm_i hf eu330
            have hP : va_P D vwCl (List.flatten [wM cT g b u330]) H := by rw [eu330]; exact hP
            exact hK107_287 _ _ _ _ hf hP hS (lv_sub hl [0, 1] rfl)
          clear eK102_325
          refine lv_if_ge (tgt := 101) hx hb dX5_laysLoads_94 (by decide) (fun c331 => ?_) (fun c331 => ?_)
          · replace hf := it_t hf c331
            refine lv_iload_n hx hb dX5_laysLoads_101 rfl (lv_at hl 3 rfl) ?_
            exact hK102_325 _ _ _ _ hf hP hS (lv_sub hl [0, 1] rfl)
          · replace hf := it_f hf c331
            refine lv_iload_n hx hb dX5_laysLoads_97 rfl (lv_at hl 2 rfl) ?_
            refine lv_goto (tgt := 102) hx hb dX5_laysLoads_98 (by decide) ?_
            exact hK102_325 _ _ _ _ hf hP hS (lv_sub hl [0, 1] rfl)
        clear eK84_312
        refine lv_if_ge (tgt := 83) hx hb dX5_laysLoads_76 (by decide) (fun c332 => ?_) (fun c332 => ?_)
        · replace hf := it_t hf c332
          refine lv_iload_n hx hb dX5_laysLoads_83 rfl (lv_at hl 1 rfl) ?_
          exact hK84_312 _ _ _ _ hf hP hS (lv_sub hl [2, 3, 1, 0] rfl)
        · replace hf := it_f hf c332
          refine lv_iload_n hx hb dX5_laysLoads_79 rfl (lv_at hl 0 rfl) ?_
          refine lv_goto (tgt := 84) hx hb dX5_laysLoads_80 (by decide) ?_
          exact hK84_312 _ _ _ _ hf hP hS (lv_sub hl [2, 3, 1, 0] rfl)
  refine hL39 fu _ _ _ hz239 _ _ _ hP hS (lv_sub hl [1, 0] rfl) (fun H locs ls hP hS hl => ?_)
  obtain rfl := Option.some.inj hf
  subst hQ
  exact en_v hx hb hr hP hS hlocks dX5_laysLoads_113
theorem iw_X5_begin_X5 : ∀ w ∈ u_ws RX5 TX5 12, w ∈ wsX5_begin := by decide +kernel
def lb_X5_begin_35 (fu : Nat)  (rec : Int32 → TM → Option (TM)) (v26 : Int32) (u27 : TM) : Option (TM) :=
if (281 : Int32) ≤ v26 then (
some (u27)
)
else (
ix v26 281 <|
nm (M_ss_ u27 (upd (M_ss u27) v26.toNatClampNeg ((0 : Int32)))) fun (u32 : TM) =>
nm (v26 + (1 : Int32)) fun (x33 : Int32) =>
rec x33 u32
)

def lf_X5_begin_35 (fu : Nat)  : Nat → Int32 → TM → Option (TM) := lq_2 (lb_X5_begin_35 fu )
def f_X5_begin (fu : Nat) (u_mo : TM) (p0 : Int32) : Option (Int32 × TM) :=
bd (f_X5_in fu  p0 ((10 : Int32)) ((60 : Int32))) fun (o15 : Bool) =>
if ¬ bI o15 = 0 then (
bd (f_X5_notes fu u_mo ) fun (o17 : TM) =>
nm (M_ss o17 0) fun (x18 : Int32) =>
nm (M_ss_ o17 (upd (M_ss o17) 0 p0)) fun (u19 : TM) =>
bd (lf_X5_begin_35 fu  fu ((9 : Int32)) u19) fun (z29 : TM) =>
some (x18, z29)
)
else (
some ((-100001 : Int32), u_mo)
)

abbrev rm_X5_begin : Room := { frames := 1, cells := 0, slots := 0, locals := 22 }
set_option maxHeartbeats 4000000 in
set_option maxRecDepth 100000 in
theorem c_X5_begin (l : Launch) (D : va_G) (cT : Nat → ClassId) (g : Nat → Nat) (b : Nat) (fu : Nat) (u_mo : TM) (p0 : Int32) (o : Int32 × TM) (hf : f_X5_begin fu u_mo p0 = some o) (sz : Nat) : Met l yX5_begin wsX5_begin rm_X5_begin (va_Pc [.ref (g b), .int p0] (PRE D cT sz (List.flatten [wM cT g b u_mo]))) (QI D o.1 (List.flatten [wM cT g b o.2]) (va_A (List.flatten [wM cT g b u_mo]) sz)) 0 0 (va_A (List.flatten [wM cT g b u_mo]) sz) := by
  refine Met.ofW (cc := cX5_begin) (maxL := 4) (ret := (some .int)) (by decide) rfl ?_
  intro p e s m args below meth c s₁ B0 hml hv
  obtain ⟨hav, hsz, hP, hK, hD, hN, hZ⟩ := hv
  have hx := B0.exec
  have hb := B0.bytes
  have hr := B0.returns
  have hts := atoms_spec (ws := wsX5_begin) B0.pre
  have hown : s.vm.findClass RX5 = some m.cls := findClass_of_methodNamed B0.named
  have hlocks := B0.notSynchronized
  subst hsz
  have hD := hD.self (sz := s.heap.size)
  have hA : ∀ q : Nat, s.heap.size ≤ q → va_A (List.flatten [wM cT g b u_mo]) s.heap.size q := fun q h => Or.inr h
  generalize va_A (List.flatten [wM cT g b u_mo]) s.heap.size = A at hD hZ hA ⊢
  have hS : va_S A s.heap s.heap [] := va_S.rf
  have hl := lv_entry ([.ref (g b), .int p0]) (n := 4) (Nat.le_of_ble_eq_true rfl)
  rw [hav]
  rw [lg_entry_eq]
  generalize (lg_sl ([.ref (g b), .int p0]) ++ List.replicate (4 - (lg_sl ([.ref (g b), .int p0])).length) Slot.unset).toArray = ls at hl ⊢
  have hl : lv_has ls 4 [(0, .ref (g b)), (1, .int p0)] := hl
  rw [← hav]
  generalize hQ : MQ below _ _ _ _ _ _ = Q
  show W p l e rm_X5_begin s m args below meth c s.heap [] 0 0 Q (F0 m 0 ls [])
  unfold f_X5_begin at hf
  refine lv_iload_n hx hb dX5_begin_0 rfl (lv_at hl 1 rfl) ?_
  refine lv_bipush (v := 10) hx hb dX5_begin_1 (by decide) ?_
  refine lv_bipush (v := 60) hx hb dX5_begin_3 (by decide) ?_
  obtain ⟨o15, ho15, hf⟩ := bd_i hf
  refine cl_i [] [0] [wM cT g b u_mo] hP (va_D_adr hD rfl) hA hS (va_runS (As := [.int p0, .int ((10 : Int32)), .int ((60 : Int32))]) (rest := []) ⟨hx, hb, hml, hown, hts⟩ (c_X5_in l D cT g  fu  p0 ((10 : Int32)) ((60 : Int32)) o15 ho15 _) (va_cwS 3 hts gX5_begin_X5_in rfl rfl rfl (by decide +kernel) ⟨Nat.le_of_ble_eq_true rfl, Nat.le_of_ble_eq_true rfl⟩) ⟨PRE_blind, PRE_ok [] (by decide) hP (va_D_adr hD rfl) hA hS hK hN hZ⟩ rfl rfl hl.1 rfl (lv_room (Nat.le_of_ble_eq_true rfl)) dX5_begin_5 ⟨Nat.le_of_ble_eq_true rfl, Nat.le_of_ble_eq_true rfl⟩) rfl 1 rfl (by decide) (by decide) (fun H locs hP hS => ?_)
  refine lv_if_ne (tgt := 14) hx hb dX5_begin_8 (by decide) (fun c16 => ?_) (fun c16 => ?_)
  · replace hf := it_t hf c16
    refine lv_aload_n hx hb dX5_begin_14 rfl (lv_at hl 0 rfl) ?_
    obtain ⟨o17, ho17, hf⟩ := bd_i hf
    refine cl_v [0] [] [wM cT g b o17] hP (va_D_adr hD rfl) hA hS (va_runV (As := []) (rest := []) ⟨hx, hb, hml, hown, hts⟩ (c_X5_notes l D cT g b fu u_mo  o17 ho17 _) (cwV 0 hts gX5_begin_X5_notes rfl rfl rfl (by decide +kernel) ⟨Nat.le_of_ble_eq_true rfl, Nat.le_of_ble_eq_true rfl⟩) ⟨PRE_blind, va_recv hK hP (ci := 5) (q0 := 0) rfl rfl, PRE_ok [0] (by decide) hP (va_D_adr hD rfl) hA hS hK hN hZ⟩ rfl rfl hl.1 rfl (lv_room (Nat.le_of_ble_eq_true rfl)) dX5_begin_15 ⟨Nat.le_of_ble_eq_true rfl, Nat.le_of_ble_eq_true rfl⟩) rfl 1 rfl (by decide) (by decide) (fun H locs hP hS => ?_)
    refine lv_aload_n hx hb dX5_begin_18 rfl (lv_at hl 0 rfl) ?_
    refine va_get (ci := 5) (v := .ref (g (b + 1))) (C := RX5) (T := TX5) (N := 12) hx hb hts iw_X5_begin_X5 hown hK hP 0 rfl rfl 0 (by decide) (hts (.fieldLink RX5 7 "BallastTrackModel" "s" "[I") (List.mem_of_getElem? (i := 2) rfl)) (fun _ h9 => h9) rfl dX5_begin_19 ?_
    refine lv_iconst (v := 0) hx hb dX5_begin_22 (by decide) ?_
    refine va_iald hx hb hK hP 1 0 rfl rfl (by unfold vp_in; decide) dX5_begin_23 ?_
    refine lv_topi (fun x18 ex18 => ?_)
    replace hf := nm_i hf ex18
    refine lv_istore_n (lv' := [(2, .int x18), (0, .ref (g b)), (1, .int p0)]) hx hb dX5_begin_24 rfl hl (by decide) rfl (fun ls hl => ?_)
    refine lv_aload_n hx hb dX5_begin_25 rfl (lv_at hl 1 rfl) ?_
    refine va_get (ci := 5) (v := .ref (g (b + 1))) (C := RX5) (T := TX5) (N := 12) hx hb hts iw_X5_begin_X5 hown hK hP 0 rfl rfl 0 (by decide) (hts (.fieldLink RX5 7 "BallastTrackModel" "s" "[I") (List.mem_of_getElem? (i := 2) rfl)) (fun _ h9 => h9) rfl dX5_begin_26 ?_
    refine lv_iconst (v := 0) hx hb dX5_begin_29 (by decide) ?_
    refine lv_iload_n hx hb dX5_begin_30 rfl (lv_at hl 2 rfl) ?_
    refine va_iast hx hb hK hP (va_D_adr hD rfl) hS 1 0 rfl rfl (by unfold vp_in; decide) dX5_begin_31 (fun H locs hP _ hS => ?_)
    obtain ⟨u19, eu19⟩ : ∃ z : TM, z = M_ss_ o17 (upd (M_ss o17) 0 p0) := ⟨_, rfl⟩
    replace hf := nm_i hf eu19
    have hP : va_P D vwCl (List.flatten [wM cT g b u19]) H := by rw [eu19]; exact hP
    refine lv_bipush (v := 9) hx hb dX5_begin_32 (by decide) ?_
    refine lv_istore_n (lv' := [(3, .int ((9 : Int32))), (2, .int x18), (0, .ref (g b)), (1, .int p0)]) hx hb dX5_begin_34 rfl hl (by decide) rfl (fun ls hl => ?_)
    obtain ⟨z29, hz29, hf⟩ := bd_i hf
    have hL35 : ∀ (n : Nat) (v26 : Int32) (u27 : TM) (z28 : TM), lf_X5_begin_35 fu  n v26 u27 = some z28 → ∀ (H : Heap) (locs : List Loc) (ls : Array Slot), va_P D vwCl (List.flatten [wM cT g b u27]) H → va_S A s.heap H locs → lv_has ls 4 [(0, .ref (g b)), (2, .int x18), (3, .int v26)] → (∀ (H : Heap) (locs : List Loc) (ls : Array Slot), va_P D vwCl (List.flatten [wM cT g b z28]) H → va_S A s.heap H locs → lv_has ls 4 [(2, .int x18)] → W p l e rm_X5_begin s m args below meth c H locs 0 0 Q (F0 m 55 ls [])) → W p l e rm_X5_begin s m args below meth c H locs 0 0 Q (F0 m 35 ls []) := by
      refine lq_2_ind (F := lb_X5_begin_35 fu ) (fun rec ih v26 u27 z28 hf H locs ls hP hS hl kx => ?_)
      unfold lb_X5_begin_35 at hf
      refine lv_iload_n hx hb dX5_begin_35 rfl (lv_at hl 2 rfl) ?_
      refine lv_sipush (v := 281) hx hb dX5_begin_36 (by decide) ?_
      refine lv_icmp_ge (tgt := 55) hx hb dX5_begin_39 (by decide) (fun c30 => ?_) (fun c30 => ?_)
      · replace hf := it_t hf c30
        obtain rfl := Option.some.inj hf
        exact kx _ _ _ hP hS (lv_sub hl [1] rfl)
      · replace hf := it_f hf c30
        refine lv_aload_n hx hb dX5_begin_42 rfl (lv_at hl 0 rfl) ?_
        refine va_get (ci := 5) (v := .ref (g (b + 1))) (C := RX5) (T := TX5) (N := 12) hx hb hts iw_X5_begin_X5 hown hK hP 0 rfl rfl 0 (by decide) (hts (.fieldLink RX5 7 "BallastTrackModel" "s" "[I") (List.mem_of_getElem? (i := 2) rfl)) (fun _ h9 => h9) rfl dX5_begin_43 ?_
        refine lv_iload_n hx hb dX5_begin_46 rfl (lv_at hl 2 rfl) ?_
        refine lv_iconst (v := 0) hx hb dX5_begin_47 (by decide) ?_
        obtain ⟨hi31, hf⟩ := ix_i hf
        refine va_iast hx hb hK hP (va_D_adr hD rfl) hS 1 0 rfl rfl hi31 dX5_begin_48 (fun H locs hP _ hS => ?_)
        obtain ⟨u32, eu32⟩ : ∃ z : TM, z = M_ss_ u27 (upd (M_ss u27) v26.toNatClampNeg ((0 : Int32))) := ⟨_, rfl⟩
        replace hf := nm_i hf eu32
        have hP : va_P D vwCl (List.flatten [wM cT g b u32]) H := by rw [eu32]; exact hP
        obtain ⟨x33, ex33⟩ : ∃ z : Int32, z = v26 + (1 : Int32) := ⟨_, rfl⟩
        replace hf := nm_i hf ex33
        refine lv_iinc (v := x33) (lv' := [(3, .int x33), (0, .ref (g b)), (2, .int x18)]) hx hb dX5_begin_49 hl (k := 2) rfl (by rw [ex33]; rfl) (by decide) rfl (fun ls hl => ?_)
        refine lv_goto (tgt := 35) hx hb dX5_begin_52 (by decide) ?_
        exact ih _ _ _ hf _ _ _ hP hS (lv_sub hl [1, 2, 0] rfl) kx
    refine hL35 fu _ _ _ hz29 _ _ _ hP hS (lv_sub hl [2, 1, 0] rfl) (fun H locs ls hP hS hl => ?_)
    refine lv_iload_n hx hb dX5_begin_55 rfl (lv_at hl 0 rfl) ?_
    obtain rfl := Option.some.inj hf
    subst hQ
    exact en_i hx hb hr hP hS hlocks dX5_begin_56
  · replace hf := it_f hf (not_not_intro c16)
    refine lv_ldc (v := -100001) hx hb hown (hts (.constant RX5 68 (-100001)) (List.mem_of_getElem? (i := 1) rfl)) dX5_begin_11 ?_
    obtain rfl := Option.some.inj hf
    subst hQ
    exact en_i hx hb hr hP hS hlocks dX5_begin_13
theorem iw_X5_isNumber_X5 : ∀ w ∈ u_ws RX5 TX5 12, w ∈ wsX5_isNumber := by decide +kernel
def f_X5_isNumber (fu : Nat) (u_mo : TM) (p0 : Int32) (p1 : Int32) : Option (Bool) :=
if p0 = (0 : Int32) then (
bd (f_X5_in fu  p1 ((1 : Int32)) ((20 : Int32))) fun (o26 : Bool) =>
some (o26)
)
else if p0 = (1 : Int32) then (
bd (f_X5_in fu  p1 ((0 : Int32)) ((99 : Int32))) fun (o28 : Bool) =>
some (o28)
)
else if p0 = (2 : Int32) then (
bd (f_X5_in fu  p1 ((1 : Int32)) ((5 : Int32))) fun (o30 : Bool) =>
some (o30)
)
else if p0 = (3 : Int32) then (
nm (M_ss u_mo 5) fun (x32 : Int32) =>
nm (x32 - (1 : Int32)) fun (x33 : Int32) =>
bd (f_X5_in fu  p1 ((1 : Int32)) x33) fun (o34 : Bool) =>
some (o34)
)
else if p0 = (4 : Int32) then (
nm (M_ss u_mo 4) fun (x36 : Int32) =>
nm (x36 + (1 : Int32)) fun (x37 : Int32) =>
nm (M_ss u_mo 6) fun (x38 : Int32) =>
nm (x38 - (1 : Int32)) fun (x39 : Int32) =>
bd (f_X5_in fu  p1 x37 x39) fun (o40 : Bool) =>
some (o40)
)
else if p0 = (5 : Int32) then (
nm (M_ss u_mo 5) fun (x42 : Int32) =>
nm (x42 + (1 : Int32)) fun (x43 : Int32) =>
bd (f_X5_in fu  p1 x43 ((2000 : Int32))) fun (o44 : Bool) =>
some (o44)
)
else if p0 = (6 : Int32) then (
bd (f_X5_in fu  p1 ((10 : Int32)) ((500 : Int32))) fun (o46 : Bool) =>
some (o46)
)
else if p0 = (7 : Int32) then (
bd (f_X5_in fu  p1 ((1 : Int32)) ((50 : Int32))) fun (o48 : Bool) =>
some (o48)
)
else (
some (false)
)

abbrev rm_X5_isNumber : Room := { frames := 1, cells := 0, slots := 0, locals := 22 }
set_option maxHeartbeats 4000000 in
set_option maxRecDepth 100000 in
theorem c_X5_isNumber (l : Launch) (D : va_G) (cT : Nat → ClassId) (g : Nat → Nat) (b : Nat) (fu : Nat) (u_mo : TM) (p0 : Int32) (p1 : Int32) (o : Bool) (hf : f_X5_isNumber fu u_mo p0 p1 = some o) (sz : Nat) : Met l yX5_isNumber wsX5_isNumber rm_X5_isNumber (va_Pc [.ref (g b), .int p0, .int p1] (PRE D cT sz (List.flatten [wM cT g b u_mo]))) (QI D (bI o) (List.flatten [wM cT g b u_mo]) (va_A (List.flatten [wM cT g b u_mo]) sz)) 0 0 (va_A (List.flatten [wM cT g b u_mo]) sz) := by
  refine Met.ofW (cc := cX5_isNumber) (maxL := 3) (ret := (some .boolean)) (by decide) rfl ?_
  intro p e s m args below meth c s₁ B0 hml hv
  obtain ⟨hav, hsz, hP, hK, hD, hN, hZ⟩ := hv
  have hx := B0.exec
  have hb := B0.bytes
  have hr := B0.returns
  have hts := atoms_spec (ws := wsX5_isNumber) B0.pre
  have hown : s.vm.findClass RX5 = some m.cls := findClass_of_methodNamed B0.named
  have hlocks := B0.notSynchronized
  subst hsz
  have hD := hD.self (sz := s.heap.size)
  have hA : ∀ q : Nat, s.heap.size ≤ q → va_A (List.flatten [wM cT g b u_mo]) s.heap.size q := fun q h => Or.inr h
  generalize va_A (List.flatten [wM cT g b u_mo]) s.heap.size = A at hD hZ hA ⊢
  have hS : va_S A s.heap s.heap [] := va_S.rf
  have hl := lv_entry ([.ref (g b), .int p0, .int p1]) (n := 3) (Nat.le_of_ble_eq_true rfl)
  rw [hav]
  rw [lg_entry_eq]
  generalize (lg_sl ([.ref (g b), .int p0, .int p1]) ++ List.replicate (3 - (lg_sl ([.ref (g b), .int p0, .int p1])).length) Slot.unset).toArray = ls at hl ⊢
  have hl : lv_has ls 3 [(0, .ref (g b)), (1, .int p0), (2, .int p1)] := hl
  rw [← hav]
  generalize hQ : MQ below _ _ _ _ _ _ = Q
  show W p l e rm_X5_isNumber s m args below meth c s.heap [] 0 0 Q (F0 m 0 ls [])
  unfold f_X5_isNumber at hf
  refine lv_iload_n hx hb dX5_isNumber_0 rfl (lv_at hl 1 rfl) ?_
  by_cases c25 : p0 = (0 : Int32)
  · replace hf := it_t hf c25
    refine lv_tableIn (off := 47) (tgt := 48) hx hb dX5_isNumber_1 (by rw [c25]; decide) (by rw [c25]; decide) (by rw [c25]; rfl) (by decide) ?_
    refine lv_iload_n hx hb dX5_isNumber_48 rfl (lv_at hl 2 rfl) ?_
    refine lv_iconst (v := 1) hx hb dX5_isNumber_49 (by decide) ?_
    refine lv_bipush (v := 20) hx hb dX5_isNumber_50 (by decide) ?_
    obtain ⟨o26, ho26, hf⟩ := bd_i hf
    refine cl_i [] [0] [wM cT g b u_mo] hP (va_D_adr hD rfl) hA hS (va_runS (As := [.int p1, .int ((1 : Int32)), .int ((20 : Int32))]) (rest := []) ⟨hx, hb, hml, hown, hts⟩ (c_X5_in l D cT g  fu  p1 ((1 : Int32)) ((20 : Int32)) o26 ho26 _) (va_cwS 3 hts gX5_isNumber_X5_in rfl rfl rfl (by decide +kernel) ⟨Nat.le_of_ble_eq_true rfl, Nat.le_of_ble_eq_true rfl⟩) ⟨PRE_blind, PRE_ok [] (by decide) hP (va_D_adr hD rfl) hA hS hK hN hZ⟩ rfl rfl hl.1 rfl (lv_room (Nat.le_of_ble_eq_true rfl)) dX5_isNumber_52 ⟨Nat.le_of_ble_eq_true rfl, Nat.le_of_ble_eq_true rfl⟩) rfl 1 rfl (by decide) (by decide) (fun H locs hP hS => ?_)
    obtain rfl := Option.some.inj hf
    subst hQ
    exact en_z hx hb hr hP hS hlocks dX5_isNumber_55
  replace hf := it_f hf c25
  by_cases c27 : p0 = (1 : Int32)
  · replace hf := it_t hf c27
    refine lv_tableIn (off := 55) (tgt := 56) hx hb dX5_isNumber_1 (by rw [c27]; decide) (by rw [c27]; decide) (by rw [c27]; rfl) (by decide) ?_
    refine lv_iload_n hx hb dX5_isNumber_56 rfl (lv_at hl 2 rfl) ?_
    refine lv_iconst (v := 0) hx hb dX5_isNumber_57 (by decide) ?_
    refine lv_bipush (v := 99) hx hb dX5_isNumber_58 (by decide) ?_
    obtain ⟨o28, ho28, hf⟩ := bd_i hf
    refine cl_i [] [0] [wM cT g b u_mo] hP (va_D_adr hD rfl) hA hS (va_runS (As := [.int p1, .int ((0 : Int32)), .int ((99 : Int32))]) (rest := []) ⟨hx, hb, hml, hown, hts⟩ (c_X5_in l D cT g  fu  p1 ((0 : Int32)) ((99 : Int32)) o28 ho28 _) (va_cwS 3 hts gX5_isNumber_X5_in rfl rfl rfl (by decide +kernel) ⟨Nat.le_of_ble_eq_true rfl, Nat.le_of_ble_eq_true rfl⟩) ⟨PRE_blind, PRE_ok [] (by decide) hP (va_D_adr hD rfl) hA hS hK hN hZ⟩ rfl rfl hl.1 rfl (lv_room (Nat.le_of_ble_eq_true rfl)) dX5_isNumber_60 ⟨Nat.le_of_ble_eq_true rfl, Nat.le_of_ble_eq_true rfl⟩) rfl 1 rfl (by decide) (by decide) (fun H locs hP hS => ?_)
    obtain rfl := Option.some.inj hf
    subst hQ
    exact en_z hx hb hr hP hS hlocks dX5_isNumber_63
  replace hf := it_f hf c27
  by_cases c29 : p0 = (2 : Int32)
  · replace hf := it_t hf c29
    refine lv_tableIn (off := 63) (tgt := 64) hx hb dX5_isNumber_1 (by rw [c29]; decide) (by rw [c29]; decide) (by rw [c29]; rfl) (by decide) ?_
    refine lv_iload_n hx hb dX5_isNumber_64 rfl (lv_at hl 2 rfl) ?_
    refine lv_iconst (v := 1) hx hb dX5_isNumber_65 (by decide) ?_
    refine lv_iconst (v := 5) hx hb dX5_isNumber_66 (by decide) ?_
    obtain ⟨o30, ho30, hf⟩ := bd_i hf
    refine cl_i [] [0] [wM cT g b u_mo] hP (va_D_adr hD rfl) hA hS (va_runS (As := [.int p1, .int ((1 : Int32)), .int ((5 : Int32))]) (rest := []) ⟨hx, hb, hml, hown, hts⟩ (c_X5_in l D cT g  fu  p1 ((1 : Int32)) ((5 : Int32)) o30 ho30 _) (va_cwS 3 hts gX5_isNumber_X5_in rfl rfl rfl (by decide +kernel) ⟨Nat.le_of_ble_eq_true rfl, Nat.le_of_ble_eq_true rfl⟩) ⟨PRE_blind, PRE_ok [] (by decide) hP (va_D_adr hD rfl) hA hS hK hN hZ⟩ rfl rfl hl.1 rfl (lv_room (Nat.le_of_ble_eq_true rfl)) dX5_isNumber_67 ⟨Nat.le_of_ble_eq_true rfl, Nat.le_of_ble_eq_true rfl⟩) rfl 1 rfl (by decide) (by decide) (fun H locs hP hS => ?_)
    obtain rfl := Option.some.inj hf
    subst hQ
    exact en_z hx hb hr hP hS hlocks dX5_isNumber_70
  replace hf := it_f hf c29
  by_cases c31 : p0 = (3 : Int32)
  · replace hf := it_t hf c31
    refine lv_tableIn (off := 70) (tgt := 71) hx hb dX5_isNumber_1 (by rw [c31]; decide) (by rw [c31]; decide) (by rw [c31]; rfl) (by decide) ?_
    refine lv_iload_n hx hb dX5_isNumber_71 rfl (lv_at hl 2 rfl) ?_
    refine lv_iconst (v := 1) hx hb dX5_isNumber_72 (by decide) ?_
    refine lv_aload_n hx hb dX5_isNumber_73 rfl (lv_at hl 0 rfl) ?_
    refine va_get (ci := 5) (v := .ref (g (b + 1))) (C := RX5) (T := TX5) (N := 12) hx hb hts iw_X5_isNumber_X5 hown hK hP 0 rfl rfl 0 (by decide) (hts (.fieldLink RX5 7 "BallastTrackModel" "s" "[I") (List.mem_of_getElem? (i := 1) rfl)) (fun _ h9 => h9) rfl dX5_isNumber_74 ?_
    refine lv_iconst (v := 5) hx hb dX5_isNumber_77 (by decide) ?_
    refine va_iald hx hb hK hP 1 0 rfl rfl (by unfold vp_in; decide) dX5_isNumber_78 ?_
    refine lv_topi (fun x32 ex32 => ?_)
    replace hf := nm_i hf ex32
    refine lv_iconst (v := 1) hx hb dX5_isNumber_79 (by decide) ?_
    refine lv_isub hx hb dX5_isNumber_80 ?_
    refine lv_topi (fun x33 ex33 => ?_)
    replace hf := nm_i hf ex33
    obtain ⟨o34, ho34, hf⟩ := bd_i hf
    refine cl_i [] [0] [wM cT g b u_mo] hP (va_D_adr hD rfl) hA hS (va_runS (As := [.int p1, .int ((1 : Int32)), .int x33]) (rest := []) ⟨hx, hb, hml, hown, hts⟩ (c_X5_in l D cT g  fu  p1 ((1 : Int32)) x33 o34 ho34 _) (va_cwS 3 hts gX5_isNumber_X5_in rfl rfl rfl (by decide +kernel) ⟨Nat.le_of_ble_eq_true rfl, Nat.le_of_ble_eq_true rfl⟩) ⟨PRE_blind, PRE_ok [] (by decide) hP (va_D_adr hD rfl) hA hS hK hN hZ⟩ rfl rfl hl.1 rfl (lv_room (Nat.le_of_ble_eq_true rfl)) dX5_isNumber_81 ⟨Nat.le_of_ble_eq_true rfl, Nat.le_of_ble_eq_true rfl⟩) rfl 1 rfl (by decide) (by decide) (fun H locs hP hS => ?_)
    obtain rfl := Option.some.inj hf
    subst hQ
    exact en_z hx hb hr hP hS hlocks dX5_isNumber_84
  replace hf := it_f hf c31
  by_cases c35 : p0 = (4 : Int32)
  · replace hf := it_t hf c35
    refine lv_tableIn (off := 84) (tgt := 85) hx hb dX5_isNumber_1 (by rw [c35]; decide) (by rw [c35]; decide) (by rw [c35]; rfl) (by decide) ?_
    refine lv_iload_n hx hb dX5_isNumber_85 rfl (lv_at hl 2 rfl) ?_
    refine lv_aload_n hx hb dX5_isNumber_86 rfl (lv_at hl 0 rfl) ?_
    refine va_get (ci := 5) (v := .ref (g (b + 1))) (C := RX5) (T := TX5) (N := 12) hx hb hts iw_X5_isNumber_X5 hown hK hP 0 rfl rfl 0 (by decide) (hts (.fieldLink RX5 7 "BallastTrackModel" "s" "[I") (List.mem_of_getElem? (i := 1) rfl)) (fun _ h9 => h9) rfl dX5_isNumber_87 ?_
    refine lv_iconst (v := 4) hx hb dX5_isNumber_90 (by decide) ?_
    refine va_iald hx hb hK hP 1 0 rfl rfl (by unfold vp_in; decide) dX5_isNumber_91 ?_
    refine lv_topi (fun x36 ex36 => ?_)
    replace hf := nm_i hf ex36
    refine lv_iconst (v := 1) hx hb dX5_isNumber_92 (by decide) ?_
    refine lv_iadd hx hb dX5_isNumber_93 ?_
    refine lv_topi (fun x37 ex37 => ?_)
    replace hf := nm_i hf ex37
    refine lv_aload_n hx hb dX5_isNumber_94 rfl (lv_at hl 0 rfl) ?_
    refine va_get (ci := 5) (v := .ref (g (b + 1))) (C := RX5) (T := TX5) (N := 12) hx hb hts iw_X5_isNumber_X5 hown hK hP 0 rfl rfl 0 (by decide) (hts (.fieldLink RX5 7 "BallastTrackModel" "s" "[I") (List.mem_of_getElem? (i := 1) rfl)) (fun _ h9 => h9) rfl dX5_isNumber_95 ?_
    refine lv_bipush (v := 6) hx hb dX5_isNumber_98 (by decide) ?_
    refine va_iald hx hb hK hP 1 0 rfl rfl (by unfold vp_in; decide) dX5_isNumber_100 ?_
    refine lv_topi (fun x38 ex38 => ?_)
    replace hf := nm_i hf ex38
    refine lv_iconst (v := 1) hx hb dX5_isNumber_101 (by decide) ?_
    refine lv_isub hx hb dX5_isNumber_102 ?_
    refine lv_topi (fun x39 ex39 => ?_)
    replace hf := nm_i hf ex39
    obtain ⟨o40, ho40, hf⟩ := bd_i hf
    refine cl_i [] [0] [wM cT g b u_mo] hP (va_D_adr hD rfl) hA hS (va_runS (As := [.int p1, .int x37, .int x39]) (rest := []) ⟨hx, hb, hml, hown, hts⟩ (c_X5_in l D cT g  fu  p1 x37 x39 o40 ho40 _) (va_cwS 3 hts gX5_isNumber_X5_in rfl rfl rfl (by decide +kernel) ⟨Nat.le_of_ble_eq_true rfl, Nat.le_of_ble_eq_true rfl⟩) ⟨PRE_blind, PRE_ok [] (by decide) hP (va_D_adr hD rfl) hA hS hK hN hZ⟩ rfl rfl hl.1 rfl (lv_room (Nat.le_of_ble_eq_true rfl)) dX5_isNumber_103 ⟨Nat.le_of_ble_eq_true rfl, Nat.le_of_ble_eq_true rfl⟩) rfl 1 rfl (by decide) (by decide) (fun H locs hP hS => ?_)
    obtain rfl := Option.some.inj hf
    subst hQ
    exact en_z hx hb hr hP hS hlocks dX5_isNumber_106
  replace hf := it_f hf c35
  by_cases c41 : p0 = (5 : Int32)
  · replace hf := it_t hf c41
    refine lv_tableIn (off := 106) (tgt := 107) hx hb dX5_isNumber_1 (by rw [c41]; decide) (by rw [c41]; decide) (by rw [c41]; rfl) (by decide) ?_
    refine lv_iload_n hx hb dX5_isNumber_107 rfl (lv_at hl 2 rfl) ?_
    refine lv_aload_n hx hb dX5_isNumber_108 rfl (lv_at hl 0 rfl) ?_
    refine va_get (ci := 5) (v := .ref (g (b + 1))) (C := RX5) (T := TX5) (N := 12) hx hb hts iw_X5_isNumber_X5 hown hK hP 0 rfl rfl 0 (by decide) (hts (.fieldLink RX5 7 "BallastTrackModel" "s" "[I") (List.mem_of_getElem? (i := 1) rfl)) (fun _ h9 => h9) rfl dX5_isNumber_109 ?_
    refine lv_iconst (v := 5) hx hb dX5_isNumber_112 (by decide) ?_
    refine va_iald hx hb hK hP 1 0 rfl rfl (by unfold vp_in; decide) dX5_isNumber_113 ?_
    refine lv_topi (fun x42 ex42 => ?_)
    replace hf := nm_i hf ex42
    refine lv_iconst (v := 1) hx hb dX5_isNumber_114 (by decide) ?_
    refine lv_iadd hx hb dX5_isNumber_115 ?_
    refine lv_topi (fun x43 ex43 => ?_)
    replace hf := nm_i hf ex43
    refine lv_sipush (v := 2000) hx hb dX5_isNumber_116 (by decide) ?_
    obtain ⟨o44, ho44, hf⟩ := bd_i hf
    refine cl_i [] [0] [wM cT g b u_mo] hP (va_D_adr hD rfl) hA hS (va_runS (As := [.int p1, .int x43, .int ((2000 : Int32))]) (rest := []) ⟨hx, hb, hml, hown, hts⟩ (c_X5_in l D cT g  fu  p1 x43 ((2000 : Int32)) o44 ho44 _) (va_cwS 3 hts gX5_isNumber_X5_in rfl rfl rfl (by decide +kernel) ⟨Nat.le_of_ble_eq_true rfl, Nat.le_of_ble_eq_true rfl⟩) ⟨PRE_blind, PRE_ok [] (by decide) hP (va_D_adr hD rfl) hA hS hK hN hZ⟩ rfl rfl hl.1 rfl (lv_room (Nat.le_of_ble_eq_true rfl)) dX5_isNumber_119 ⟨Nat.le_of_ble_eq_true rfl, Nat.le_of_ble_eq_true rfl⟩) rfl 1 rfl (by decide) (by decide) (fun H locs hP hS => ?_)
    obtain rfl := Option.some.inj hf
    subst hQ
    exact en_z hx hb hr hP hS hlocks dX5_isNumber_122
  replace hf := it_f hf c41
  by_cases c45 : p0 = (6 : Int32)
  · replace hf := it_t hf c45
    refine lv_tableIn (off := 122) (tgt := 123) hx hb dX5_isNumber_1 (by rw [c45]; decide) (by rw [c45]; decide) (by rw [c45]; rfl) (by decide) ?_
    refine lv_iload_n hx hb dX5_isNumber_123 rfl (lv_at hl 2 rfl) ?_
    refine lv_bipush (v := 10) hx hb dX5_isNumber_124 (by decide) ?_
    refine lv_sipush (v := 500) hx hb dX5_isNumber_126 (by decide) ?_
    obtain ⟨o46, ho46, hf⟩ := bd_i hf
    refine cl_i [] [0] [wM cT g b u_mo] hP (va_D_adr hD rfl) hA hS (va_runS (As := [.int p1, .int ((10 : Int32)), .int ((500 : Int32))]) (rest := []) ⟨hx, hb, hml, hown, hts⟩ (c_X5_in l D cT g  fu  p1 ((10 : Int32)) ((500 : Int32)) o46 ho46 _) (va_cwS 3 hts gX5_isNumber_X5_in rfl rfl rfl (by decide +kernel) ⟨Nat.le_of_ble_eq_true rfl, Nat.le_of_ble_eq_true rfl⟩) ⟨PRE_blind, PRE_ok [] (by decide) hP (va_D_adr hD rfl) hA hS hK hN hZ⟩ rfl rfl hl.1 rfl (lv_room (Nat.le_of_ble_eq_true rfl)) dX5_isNumber_129 ⟨Nat.le_of_ble_eq_true rfl, Nat.le_of_ble_eq_true rfl⟩) rfl 1 rfl (by decide) (by decide) (fun H locs hP hS => ?_)
    obtain rfl := Option.some.inj hf
    subst hQ
    exact en_z hx hb hr hP hS hlocks dX5_isNumber_132
  replace hf := it_f hf c45
  by_cases c47 : p0 = (7 : Int32)
  · replace hf := it_t hf c47
    refine lv_tableIn (off := 132) (tgt := 133) hx hb dX5_isNumber_1 (by rw [c47]; decide) (by rw [c47]; decide) (by rw [c47]; rfl) (by decide) ?_
    refine lv_iload_n hx hb dX5_isNumber_133 rfl (lv_at hl 2 rfl) ?_
    refine lv_iconst (v := 1) hx hb dX5_isNumber_134 (by decide) ?_
    refine lv_bipush (v := 50) hx hb dX5_isNumber_135 (by decide) ?_
    obtain ⟨o48, ho48, hf⟩ := bd_i hf
    refine cl_i [] [0] [wM cT g b u_mo] hP (va_D_adr hD rfl) hA hS (va_runS (As := [.int p1, .int ((1 : Int32)), .int ((50 : Int32))]) (rest := []) ⟨hx, hb, hml, hown, hts⟩ (c_X5_in l D cT g  fu  p1 ((1 : Int32)) ((50 : Int32)) o48 ho48 _) (va_cwS 3 hts gX5_isNumber_X5_in rfl rfl rfl (by decide +kernel) ⟨Nat.le_of_ble_eq_true rfl, Nat.le_of_ble_eq_true rfl⟩) ⟨PRE_blind, PRE_ok [] (by decide) hP (va_D_adr hD rfl) hA hS hK hN hZ⟩ rfl rfl hl.1 rfl (lv_room (Nat.le_of_ble_eq_true rfl)) dX5_isNumber_137 ⟨Nat.le_of_ble_eq_true rfl, Nat.le_of_ble_eq_true rfl⟩) rfl 1 rfl (by decide) (by decide) (fun H locs hP hS => ?_)
    obtain rfl := Option.some.inj hf
    subst hQ
    exact en_z hx hb hr hP hS hlocks dX5_isNumber_140
  replace hf := it_f hf c47
  refine lv_tableOut (tgt := 141) hx hb dX5_isNumber_1 (sw_out (fun k h1 h2 => by
    rcases (show k = 0 ∨ k = 1 ∨ k = 2 ∨ k = 3 ∨ k = 4 ∨ k = 5 ∨ k = 6 ∨ k = 7 by omega) with rfl | rfl | rfl | rfl | rfl | rfl | rfl | rfl
    · exact c25
    · exact c27
    · exact c29
    · exact c31
    · exact c35
    · exact c41
    · exact c45
    · exact c47)) (by decide) ?_
  refine lv_iconst (v := 0) hx hb dX5_isNumber_141 (by decide) ?_
  obtain rfl := Option.some.inj hf
  subst hQ
  exact en_z (v := false) hx hb hr hP hS hlocks dX5_isNumber_142
theorem iw_X5_setNumber_X5 : ∀ w ∈ u_ws RX5 TX5 12, w ∈ wsX5_setNumber := by decide +kernel
def f_X5_setNumber (fu : Nat) (u_mo : TM) (p0 : Int32) (p1 : Int32) : Option (Int32 × TM) :=
bd (f_X5_isNumber fu u_mo p0 p1) fun (o10 : Bool) =>
if ¬ bI o10 = 0 then (
bd (f_X5_notes fu u_mo ) fun (o12 : TM) =>
nm ((1 : Int32) + p0) fun (x13 : Int32) =>
ix x13 281 <|
nm ((M_ss o12) x13.toNatClampNeg) fun (x15 : Int32) =>
nm ((1 : Int32) + p0) fun (x16 : Int32) =>
ix x16 281 <|
nm (M_ss_ o12 (upd (M_ss o12) x16.toNatClampNeg p1)) fun (u18 : TM) =>
some (x15, u18)
)
else (
some ((-100001 : Int32), u_mo)
)

abbrev rm_X5_setNumber : Room := { frames := 2, cells := 0, slots := 0, locals := 44 }
set_option maxHeartbeats 4000000 in
set_option maxRecDepth 100000 in
theorem c_X5_setNumber (l : Launch) (D : va_G) (cT : Nat → ClassId) (g : Nat → Nat) (b : Nat) (fu : Nat) (u_mo : TM) (p0 : Int32) (p1 : Int32) (o : Int32 × TM) (hf : f_X5_setNumber fu u_mo p0 p1 = some o) (sz : Nat) : Met l yX5_setNumber wsX5_setNumber rm_X5_setNumber (va_Pc [.ref (g b), .int p0, .int p1] (PRE D cT sz (List.flatten [wM cT g b u_mo]))) (QI D o.1 (List.flatten [wM cT g b o.2]) (va_A (List.flatten [wM cT g b u_mo]) sz)) 0 0 (va_A (List.flatten [wM cT g b u_mo]) sz) := by
  refine Met.ofW (cc := cX5_setNumber) (maxL := 4) (ret := (some .int)) (by decide) rfl ?_
  intro p e s m args below meth c s₁ B0 hml hv
  obtain ⟨hav, hsz, hP, hK, hD, hN, hZ⟩ := hv
  have hx := B0.exec
  have hb := B0.bytes
  have hr := B0.returns
  have hts := atoms_spec (ws := wsX5_setNumber) B0.pre
  have hown : s.vm.findClass RX5 = some m.cls := findClass_of_methodNamed B0.named
  have hlocks := B0.notSynchronized
  subst hsz
  have hD := hD.self (sz := s.heap.size)
  have hA : ∀ q : Nat, s.heap.size ≤ q → va_A (List.flatten [wM cT g b u_mo]) s.heap.size q := fun q h => Or.inr h
  generalize va_A (List.flatten [wM cT g b u_mo]) s.heap.size = A at hD hZ hA ⊢
  have hS : va_S A s.heap s.heap [] := va_S.rf
  have hl := lv_entry ([.ref (g b), .int p0, .int p1]) (n := 4) (Nat.le_of_ble_eq_true rfl)
  rw [hav]
  rw [lg_entry_eq]
  generalize (lg_sl ([.ref (g b), .int p0, .int p1]) ++ List.replicate (4 - (lg_sl ([.ref (g b), .int p0, .int p1])).length) Slot.unset).toArray = ls at hl ⊢
  have hl : lv_has ls 4 [(0, .ref (g b)), (1, .int p0), (2, .int p1)] := hl
  rw [← hav]
  generalize hQ : MQ below _ _ _ _ _ _ = Q
  show W p l e rm_X5_setNumber s m args below meth c s.heap [] 0 0 Q (F0 m 0 ls [])
  unfold f_X5_setNumber at hf
  refine lv_aload_n hx hb dX5_setNumber_0 rfl (lv_at hl 0 rfl) ?_
  refine lv_iload_n hx hb dX5_setNumber_1 rfl (lv_at hl 1 rfl) ?_
  refine lv_iload_n hx hb dX5_setNumber_2 rfl (lv_at hl 2 rfl) ?_
  obtain ⟨o10, ho10, hf⟩ := bd_i hf
  refine cl_i [0] [] [wM cT g b u_mo] hP (va_D_adr hD rfl) hA hS (va_runV (As := [.int p0, .int p1]) (rest := []) ⟨hx, hb, hml, hown, hts⟩ (c_X5_isNumber l D cT g b fu u_mo p0 p1 o10 ho10 _) (cwV 2 hts gX5_setNumber_X5_isNumber rfl rfl rfl (by decide +kernel) ⟨Nat.le_of_ble_eq_true rfl, Nat.le_of_ble_eq_true rfl⟩) ⟨PRE_blind, va_recv hK hP (ci := 5) (q0 := 0) rfl rfl, PRE_ok [0] (by decide) hP (va_D_adr hD rfl) hA hS hK hN hZ⟩ rfl rfl hl.1 rfl (lv_room (Nat.le_of_ble_eq_true rfl)) dX5_setNumber_3 ⟨Nat.le_of_ble_eq_true rfl, Nat.le_of_ble_eq_true rfl⟩) rfl 1 rfl (by decide) (by decide) (fun H locs hP hS => ?_)
  refine lv_if_ne (tgt := 12) hx hb dX5_setNumber_6 (by decide) (fun c11 => ?_) (fun c11 => ?_)
  · replace hf := it_t hf c11
    refine lv_aload_n hx hb dX5_setNumber_12 rfl (lv_at hl 0 rfl) ?_
    obtain ⟨o12, ho12, hf⟩ := bd_i hf
    refine cl_v [0] [] [wM cT g b o12] hP (va_D_adr hD rfl) hA hS (va_runV (As := []) (rest := []) ⟨hx, hb, hml, hown, hts⟩ (c_X5_notes l D cT g b fu u_mo  o12 ho12 _) (cwV 0 hts gX5_setNumber_X5_notes rfl rfl rfl (by decide +kernel) ⟨Nat.le_of_ble_eq_true rfl, Nat.le_of_ble_eq_true rfl⟩) ⟨PRE_blind, va_recv hK hP (ci := 5) (q0 := 0) rfl rfl, PRE_ok [0] (by decide) hP (va_D_adr hD rfl) hA hS hK hN hZ⟩ rfl rfl hl.1 rfl (lv_room (Nat.le_of_ble_eq_true rfl)) dX5_setNumber_13 ⟨Nat.le_of_ble_eq_true rfl, Nat.le_of_ble_eq_true rfl⟩) rfl 1 rfl (by decide) (by decide) (fun H locs hP hS => ?_)
    refine lv_aload_n hx hb dX5_setNumber_16 rfl (lv_at hl 0 rfl) ?_
    refine va_get (ci := 5) (v := .ref (g (b + 1))) (C := RX5) (T := TX5) (N := 12) hx hb hts iw_X5_setNumber_X5 hown hK hP 0 rfl rfl 0 (by decide) (hts (.fieldLink RX5 7 "BallastTrackModel" "s" "[I") (List.mem_of_getElem? (i := 2) rfl)) (fun _ h9 => h9) rfl dX5_setNumber_17 ?_
    refine lv_iconst (v := 1) hx hb dX5_setNumber_20 (by decide) ?_
    refine lv_iload_n hx hb dX5_setNumber_21 rfl (lv_at hl 1 rfl) ?_
    refine lv_iadd hx hb dX5_setNumber_22 ?_
    refine lv_topi (fun x13 ex13 => ?_)
    replace hf := nm_i hf ex13
    obtain ⟨hi14, hf⟩ := ix_i hf
    refine va_iald hx hb hK hP 1 0 rfl rfl hi14 dX5_setNumber_23 ?_
    refine lv_topi (fun x15 ex15 => ?_)
    replace hf := nm_i hf ex15
    refine lv_istore_n (lv' := [(3, .int x15), (0, .ref (g b)), (1, .int p0), (2, .int p1)]) hx hb dX5_setNumber_24 rfl hl (by decide) rfl (fun ls hl => ?_)
    refine lv_aload_n hx hb dX5_setNumber_25 rfl (lv_at hl 1 rfl) ?_
    refine va_get (ci := 5) (v := .ref (g (b + 1))) (C := RX5) (T := TX5) (N := 12) hx hb hts iw_X5_setNumber_X5 hown hK hP 0 rfl rfl 0 (by decide) (hts (.fieldLink RX5 7 "BallastTrackModel" "s" "[I") (List.mem_of_getElem? (i := 2) rfl)) (fun _ h9 => h9) rfl dX5_setNumber_26 ?_
    refine lv_iconst (v := 1) hx hb dX5_setNumber_29 (by decide) ?_
    refine lv_iload_n hx hb dX5_setNumber_30 rfl (lv_at hl 2 rfl) ?_
    refine lv_iadd hx hb dX5_setNumber_31 ?_
    refine lv_topi (fun x16 ex16 => ?_)
    replace hf := nm_i hf ex16
    refine lv_iload_n hx hb dX5_setNumber_32 rfl (lv_at hl 3 rfl) ?_
    obtain ⟨hi17, hf⟩ := ix_i hf
    refine va_iast hx hb hK hP (va_D_adr hD rfl) hS 1 0 rfl rfl hi17 dX5_setNumber_33 (fun H locs hP _ hS => ?_)
    obtain ⟨u18, eu18⟩ : ∃ z : TM, z = M_ss_ o12 (upd (M_ss o12) x16.toNatClampNeg p1) := ⟨_, rfl⟩
    replace hf := nm_i hf eu18
    have hP : va_P D vwCl (List.flatten [wM cT g b u18]) H := by rw [eu18]; exact hP
    refine lv_iload_n hx hb dX5_setNumber_34 rfl (lv_at hl 0 rfl) ?_
    obtain rfl := Option.some.inj hf
    subst hQ
    exact en_i hx hb hr hP hS hlocks dX5_setNumber_35
  · replace hf := it_f hf (not_not_intro c11)
    refine lv_ldc (v := -100001) hx hb hown (hts (.constant RX5 68 (-100001)) (List.mem_of_getElem? (i := 1) rfl)) dX5_setNumber_9 ?_
    obtain rfl := Option.some.inj hf
    subst hQ
    exact en_i hx hb hr hP hS hlocks dX5_setNumber_11
theorem iw_X5_puts_X5 : ∀ w ∈ u_ws RX5 TX5 12, w ∈ wsX5_puts := by decide +kernel
def f_X5_puts (fu : Nat) (u_mo : TM) (p0 : Int32) (p1 : Int32) : Option (TM) :=
nm (M_ss u_mo 15) fun (x11 : Int32) =>
nm ((41 : Int32) + p0) fun (x12 : Int32) =>
ix x12 281 <|
nm ((M_ss u_mo) x12.toNatClampNeg) fun (x14 : Int32) =>
nm (p1 - x14) fun (x15 : Int32) =>
nm (x11 + x15) fun (x16 : Int32) =>
nm (M_ss_ u_mo (upd (M_ss u_mo) 15 x16)) fun (u17 : TM) =>
nm ((41 : Int32) + p0) fun (x18 : Int32) =>
ix x18 281 <|
nm (M_ss_ u17 (upd (M_ss u17) x18.toNatClampNeg p1)) fun (u20 : TM) =>
some (u20)

abbrev rm_X5_puts : Room := { frames := 0, cells := 0, slots := 0, locals := 0 }
set_option maxHeartbeats 4000000 in
set_option maxRecDepth 100000 in
theorem c_X5_puts (l : Launch) (D : va_G) (cT : Nat → ClassId) (g : Nat → Nat) (b : Nat) (fu : Nat) (u_mo : TM) (p0 : Int32) (p1 : Int32) (o : TM) (hf : f_X5_puts fu u_mo p0 p1 = some o) (sz : Nat) : Met l yX5_puts wsX5_puts rm_X5_puts (va_Pc [.ref (g b), .int p0, .int p1] (PRE D cT sz (List.flatten [wM cT g b u_mo]))) (QV D (List.flatten [wM cT g b o]) (va_A (List.flatten [wM cT g b u_mo]) sz)) 0 0 (va_A (List.flatten [wM cT g b u_mo]) sz) := by
  refine Met.ofW (cc := cX5_puts) (maxL := 3) (ret := none) (by decide) rfl ?_
  intro p e s m args below meth c s₁ B0 hml hv
  obtain ⟨hav, hsz, hP, hK, hD, hN, hZ⟩ := hv
  have hx := B0.exec
  have hb := B0.bytes
  have hr := B0.returns
  have hts := atoms_spec (ws := wsX5_puts) B0.pre
  have hown : s.vm.findClass RX5 = some m.cls := findClass_of_methodNamed B0.named
  have hlocks := B0.notSynchronized
  subst hsz
  have hD := hD.self (sz := s.heap.size)
  have hA : ∀ q : Nat, s.heap.size ≤ q → va_A (List.flatten [wM cT g b u_mo]) s.heap.size q := fun q h => Or.inr h
  generalize va_A (List.flatten [wM cT g b u_mo]) s.heap.size = A at hD hZ hA ⊢
  have hS : va_S A s.heap s.heap [] := va_S.rf
  have hl := lv_entry ([.ref (g b), .int p0, .int p1]) (n := 3) (Nat.le_of_ble_eq_true rfl)
  rw [hav]
  rw [lg_entry_eq]
  generalize (lg_sl ([.ref (g b), .int p0, .int p1]) ++ List.replicate (3 - (lg_sl ([.ref (g b), .int p0, .int p1])).length) Slot.unset).toArray = ls at hl ⊢
  have hl : lv_has ls 3 [(0, .ref (g b)), (1, .int p0), (2, .int p1)] := hl
  rw [← hav]
  generalize hQ : MQ below _ _ _ _ _ _ = Q
  show W p l e rm_X5_puts s m args below meth c s.heap [] 0 0 Q (F0 m 0 ls [])
  unfold f_X5_puts at hf
  refine lv_aload_n hx hb dX5_puts_0 rfl (lv_at hl 0 rfl) ?_
  refine va_get (ci := 5) (v := .ref (g (b + 1))) (C := RX5) (T := TX5) (N := 12) hx hb hts iw_X5_puts_X5 hown hK hP 0 rfl rfl 0 (by decide) (hts (.fieldLink RX5 7 "BallastTrackModel" "s" "[I") (List.mem_of_getElem? (i := 1) rfl)) (fun _ h9 => h9) rfl dX5_puts_1 ?_
  refine lv_bipush (v := 15) hx hb dX5_puts_4 (by decide) ?_
  refine lv_dup2_11 hx hb dX5_puts_6 rfl rfl ?_
  refine va_iald hx hb hK hP 1 0 rfl rfl (by unfold vp_in; decide) dX5_puts_7 ?_
  refine lv_topi (fun x11 ex11 => ?_)
  replace hf := nm_i hf ex11
  refine lv_iload_n hx hb dX5_puts_8 rfl (lv_at hl 2 rfl) ?_
  refine lv_aload_n hx hb dX5_puts_9 rfl (lv_at hl 0 rfl) ?_
  refine va_get (ci := 5) (v := .ref (g (b + 1))) (C := RX5) (T := TX5) (N := 12) hx hb hts iw_X5_puts_X5 hown hK hP 0 rfl rfl 0 (by decide) (hts (.fieldLink RX5 7 "BallastTrackModel" "s" "[I") (List.mem_of_getElem? (i := 1) rfl)) (fun _ h9 => h9) rfl dX5_puts_10 ?_
  refine lv_bipush (v := 41) hx hb dX5_puts_13 (by decide) ?_
  refine lv_iload_n hx hb dX5_puts_15 rfl (lv_at hl 1 rfl) ?_
  refine lv_iadd hx hb dX5_puts_16 ?_
  refine lv_topi (fun x12 ex12 => ?_)
  replace hf := nm_i hf ex12
  obtain ⟨hi13, hf⟩ := ix_i hf
  refine va_iald hx hb hK hP 1 0 rfl rfl hi13 dX5_puts_17 ?_
  refine lv_topi (fun x14 ex14 => ?_)
  replace hf := nm_i hf ex14
  refine lv_isub hx hb dX5_puts_18 ?_
  refine lv_topi (fun x15 ex15 => ?_)
  replace hf := nm_i hf ex15
  refine lv_iadd hx hb dX5_puts_19 ?_
  refine lv_topi (fun x16 ex16 => ?_)
  replace hf := nm_i hf ex16
  refine va_iast hx hb hK hP (va_D_adr hD rfl) hS 1 0 rfl rfl (by unfold vp_in; decide) dX5_puts_20 (fun H locs hP _ hS => ?_)
  obtain ⟨u17, eu17⟩ : ∃ z : TM, z = M_ss_ u_mo (upd (M_ss u_mo) 15 x16) := ⟨_, rfl⟩
  replace hf := nm_i hf eu17
  have hP : va_P D vwCl (List.flatten [wM cT g b u17]) H := by rw [eu17]; exact hP
  refine lv_aload_n hx hb dX5_puts_21 rfl (lv_at hl 0 rfl) ?_
  refine va_get (ci := 5) (v := .ref (g (b + 1))) (C := RX5) (T := TX5) (N := 12) hx hb hts iw_X5_puts_X5 hown hK hP 0 rfl rfl 0 (by decide) (hts (.fieldLink RX5 7 "BallastTrackModel" "s" "[I") (List.mem_of_getElem? (i := 1) rfl)) (fun _ h9 => h9) rfl dX5_puts_22 ?_
  refine lv_bipush (v := 41) hx hb dX5_puts_25 (by decide) ?_
  refine lv_iload_n hx hb dX5_puts_27 rfl (lv_at hl 1 rfl) ?_
  refine lv_iadd hx hb dX5_puts_28 ?_
  refine lv_topi (fun x18 ex18 => ?_)
  replace hf := nm_i hf ex18
  refine lv_iload_n hx hb dX5_puts_29 rfl (lv_at hl 2 rfl) ?_
  obtain ⟨hi19, hf⟩ := ix_i hf
  refine va_iast hx hb hK hP (va_D_adr hD rfl) hS 1 0 rfl rfl hi19 dX5_puts_30 (fun H locs hP _ hS => ?_)
  obtain ⟨u20, eu20⟩ : ∃ z : TM, z = M_ss_ u17 (upd (M_ss u17) x18.toNatClampNeg p1) := ⟨_, rfl⟩
  replace hf := nm_i hf eu20
  have hP : va_P D vwCl (List.flatten [wM cT g b u20]) H := by rw [eu20]; exact hP
  obtain rfl := Option.some.inj hf
  subst hQ
  exact en_v hx hb hr hP hS hlocks dX5_puts_31
theorem iw_X5_setLevel_X5 : ∀ w ∈ u_ws RX5 TX5 12, w ∈ wsX5_setLevel := by decide +kernel
def f_X5_setLevel (fu : Nat) (u_mo : TM) (p0 : Int32) (p1 : Int32) : Option (Int32 × TM) :=
bd (f_X5_isSleeper fu u_mo p0) fun (o10 : Bool) =>
if bI o10 = 0 then (
some ((-100001 : Int32), u_mo)
)
else (
bd (f_X5_isLevel fu  p1) fun (o12 : Bool) =>
if ¬ bI o12 = 0 then (
bd (f_X5_notes fu u_mo ) fun (o14 : TM) =>
nm ((41 : Int32) + p0) fun (x15 : Int32) =>
ix x15 281 <|
nm ((M_ss o14) x15.toNatClampNeg) fun (x17 : Int32) =>
bd (f_X5_puts fu o14 p0 p1) fun (o18 : TM) =>
some (x17, o18)
)
else (
some ((-100001 : Int32), u_mo)
)
)

abbrev rm_X5_setLevel : Room := { frames := 2, cells := 0, slots := 0, locals := 43 }
set_option maxHeartbeats 4000000 in
set_option maxRecDepth 100000 in
theorem c_X5_setLevel (l : Launch) (D : va_G) (cT : Nat → ClassId) (g : Nat → Nat) (b : Nat) (fu : Nat) (u_mo : TM) (p0 : Int32) (p1 : Int32) (o : Int32 × TM) (hf : f_X5_setLevel fu u_mo p0 p1 = some o) (sz : Nat) : Met l yX5_setLevel wsX5_setLevel rm_X5_setLevel (va_Pc [.ref (g b), .int p0, .int p1] (PRE D cT sz (List.flatten [wM cT g b u_mo]))) (QI D o.1 (List.flatten [wM cT g b o.2]) (va_A (List.flatten [wM cT g b u_mo]) sz)) 0 0 (va_A (List.flatten [wM cT g b u_mo]) sz) := by
  refine Met.ofW (cc := cX5_setLevel) (maxL := 4) (ret := (some .int)) (by decide) rfl ?_
  intro p e s m args below meth c s₁ B0 hml hv
  obtain ⟨hav, hsz, hP, hK, hD, hN, hZ⟩ := hv
  have hx := B0.exec
  have hb := B0.bytes
  have hr := B0.returns
  have hts := atoms_spec (ws := wsX5_setLevel) B0.pre
  have hown : s.vm.findClass RX5 = some m.cls := findClass_of_methodNamed B0.named
  have hlocks := B0.notSynchronized
  subst hsz
  have hD := hD.self (sz := s.heap.size)
  have hA : ∀ q : Nat, s.heap.size ≤ q → va_A (List.flatten [wM cT g b u_mo]) s.heap.size q := fun q h => Or.inr h
  generalize va_A (List.flatten [wM cT g b u_mo]) s.heap.size = A at hD hZ hA ⊢
  have hS : va_S A s.heap s.heap [] := va_S.rf
  have hl := lv_entry ([.ref (g b), .int p0, .int p1]) (n := 4) (Nat.le_of_ble_eq_true rfl)
  rw [hav]
  rw [lg_entry_eq]
  generalize (lg_sl ([.ref (g b), .int p0, .int p1]) ++ List.replicate (4 - (lg_sl ([.ref (g b), .int p0, .int p1])).length) Slot.unset).toArray = ls at hl ⊢
  have hl : lv_has ls 4 [(0, .ref (g b)), (1, .int p0), (2, .int p1)] := hl
  rw [← hav]
  generalize hQ : MQ below _ _ _ _ _ _ = Q
  show W p l e rm_X5_setLevel s m args below meth c s.heap [] 0 0 Q (F0 m 0 ls [])
  unfold f_X5_setLevel at hf
  refine lv_aload_n hx hb dX5_setLevel_0 rfl (lv_at hl 0 rfl) ?_
  refine lv_iload_n hx hb dX5_setLevel_1 rfl (lv_at hl 1 rfl) ?_
  obtain ⟨o10, ho10, hf⟩ := bd_i hf
  refine cl_i [0] [] [wM cT g b u_mo] hP (va_D_adr hD rfl) hA hS (va_runV (As := [.int p0]) (rest := []) ⟨hx, hb, hml, hown, hts⟩ (c_X5_isSleeper l D cT g b fu u_mo p0 o10 ho10 _) (cwV 1 hts gX5_setLevel_X5_isSleeper rfl rfl rfl (by decide +kernel) ⟨Nat.le_of_ble_eq_true rfl, Nat.le_of_ble_eq_true rfl⟩) ⟨PRE_blind, va_recv hK hP (ci := 5) (q0 := 0) rfl rfl, PRE_ok [0] (by decide) hP (va_D_adr hD rfl) hA hS hK hN hZ⟩ rfl rfl hl.1 rfl (lv_room (Nat.le_of_ble_eq_true rfl)) dX5_setLevel_2 ⟨Nat.le_of_ble_eq_true rfl, Nat.le_of_ble_eq_true rfl⟩) rfl 1 rfl (by decide) (by decide) (fun H locs hP hS => ?_)
  refine lv_if_eq (tgt := 15) hx hb dX5_setLevel_5 (by decide) (fun c11 => ?_) (fun c11 => ?_)
  · replace hf := it_t hf c11
    refine lv_ldc (v := -100001) hx hb hown (hts (.constant RX5 68 (-100001)) (List.mem_of_getElem? (i := 1) rfl)) dX5_setLevel_15 ?_
    obtain rfl := Option.some.inj hf
    subst hQ
    exact en_i hx hb hr hP hS hlocks dX5_setLevel_17
  · replace hf := it_f hf c11
    refine lv_iload_n hx hb dX5_setLevel_8 rfl (lv_at hl 2 rfl) ?_
    obtain ⟨o12, ho12, hf⟩ := bd_i hf
    refine cl_i [] [0] [wM cT g b u_mo] hP (va_D_adr hD rfl) hA hS (va_runS (As := [.int p1]) (rest := []) ⟨hx, hb, hml, hown, hts⟩ (c_X5_isLevel l D cT g  fu  p1 o12 ho12 _) (va_cwS 1 hts gX5_setLevel_X5_isLevel rfl rfl rfl (by decide +kernel) ⟨Nat.le_of_ble_eq_true rfl, Nat.le_of_ble_eq_true rfl⟩) ⟨PRE_blind, PRE_ok [] (by decide) hP (va_D_adr hD rfl) hA hS hK hN hZ⟩ rfl rfl hl.1 rfl (lv_room (Nat.le_of_ble_eq_true rfl)) dX5_setLevel_9 ⟨Nat.le_of_ble_eq_true rfl, Nat.le_of_ble_eq_true rfl⟩) rfl 1 rfl (by decide) (by decide) (fun H locs hP hS => ?_)
    refine lv_if_ne (tgt := 18) hx hb dX5_setLevel_12 (by decide) (fun c13 => ?_) (fun c13 => ?_)
    · replace hf := it_t hf c13
      refine lv_aload_n hx hb dX5_setLevel_18 rfl (lv_at hl 0 rfl) ?_
      obtain ⟨o14, ho14, hf⟩ := bd_i hf
      refine cl_v [0] [] [wM cT g b o14] hP (va_D_adr hD rfl) hA hS (va_runV (As := []) (rest := []) ⟨hx, hb, hml, hown, hts⟩ (c_X5_notes l D cT g b fu u_mo  o14 ho14 _) (cwV 0 hts gX5_setLevel_X5_notes rfl rfl rfl (by decide +kernel) ⟨Nat.le_of_ble_eq_true rfl, Nat.le_of_ble_eq_true rfl⟩) ⟨PRE_blind, va_recv hK hP (ci := 5) (q0 := 0) rfl rfl, PRE_ok [0] (by decide) hP (va_D_adr hD rfl) hA hS hK hN hZ⟩ rfl rfl hl.1 rfl (lv_room (Nat.le_of_ble_eq_true rfl)) dX5_setLevel_19 ⟨Nat.le_of_ble_eq_true rfl, Nat.le_of_ble_eq_true rfl⟩) rfl 1 rfl (by decide) (by decide) (fun H locs hP hS => ?_)
      refine lv_aload_n hx hb dX5_setLevel_22 rfl (lv_at hl 0 rfl) ?_
      refine va_get (ci := 5) (v := .ref (g (b + 1))) (C := RX5) (T := TX5) (N := 12) hx hb hts iw_X5_setLevel_X5 hown hK hP 0 rfl rfl 0 (by decide) (hts (.fieldLink RX5 7 "BallastTrackModel" "s" "[I") (List.mem_of_getElem? (i := 2) rfl)) (fun _ h9 => h9) rfl dX5_setLevel_23 ?_
      refine lv_bipush (v := 41) hx hb dX5_setLevel_26 (by decide) ?_
      refine lv_iload_n hx hb dX5_setLevel_28 rfl (lv_at hl 1 rfl) ?_
      refine lv_iadd hx hb dX5_setLevel_29 ?_
      refine lv_topi (fun x15 ex15 => ?_)
      replace hf := nm_i hf ex15
      obtain ⟨hi16, hf⟩ := ix_i hf
      refine va_iald hx hb hK hP 1 0 rfl rfl hi16 dX5_setLevel_30 ?_
      refine lv_topi (fun x17 ex17 => ?_)
      replace hf := nm_i hf ex17
      refine lv_istore_n (lv' := [(3, .int x17), (0, .ref (g b)), (1, .int p0), (2, .int p1)]) hx hb dX5_setLevel_31 rfl hl (by decide) rfl (fun ls hl => ?_)
      refine lv_aload_n hx hb dX5_setLevel_32 rfl (lv_at hl 1 rfl) ?_
      refine lv_iload_n hx hb dX5_setLevel_33 rfl (lv_at hl 2 rfl) ?_
      refine lv_iload_n hx hb dX5_setLevel_34 rfl (lv_at hl 3 rfl) ?_
      obtain ⟨o18, ho18, hf⟩ := bd_i hf
      refine cl_v [0] [] [wM cT g b o18] hP (va_D_adr hD rfl) hA hS (va_runV (As := [.int p0, .int p1]) (rest := []) ⟨hx, hb, hml, hown, hts⟩ (c_X5_puts l D cT g b fu o14 p0 p1 o18 ho18 _) (cwV 2 hts gX5_setLevel_X5_puts rfl rfl rfl (by decide +kernel) ⟨Nat.le_of_ble_eq_true rfl, Nat.le_of_ble_eq_true rfl⟩) ⟨PRE_blind, va_recv hK hP (ci := 5) (q0 := 0) rfl rfl, PRE_ok [0] (by decide) hP (va_D_adr hD rfl) hA hS hK hN hZ⟩ rfl rfl hl.1 rfl (lv_room (Nat.le_of_ble_eq_true rfl)) dX5_setLevel_35 ⟨Nat.le_of_ble_eq_true rfl, Nat.le_of_ble_eq_true rfl⟩) rfl 1 rfl (by decide) (by decide) (fun H locs hP hS => ?_)
      refine lv_iload_n hx hb dX5_setLevel_38 rfl (lv_at hl 0 rfl) ?_
      obtain rfl := Option.some.inj hf
      subst hQ
      exact en_i hx hb hr hP hS hlocks dX5_setLevel_39
    · replace hf := it_f hf (not_not_intro c13)
      refine lv_ldc (v := -100001) hx hb hown (hts (.constant RX5 68 (-100001)) (List.mem_of_getElem? (i := 1) rfl)) dX5_setLevel_15 ?_
      obtain rfl := Option.some.inj hf
      subst hQ
      exact en_i hx hb hr hP hS hlocks dX5_setLevel_17
