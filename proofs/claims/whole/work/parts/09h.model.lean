theorem iw_X5_bestRow_X5 : ∀ w ∈ u_ws RX5 TX5 12, w ∈ wsX5_bestRow := by decide +kernel
def lb_X5_bestRow_54 (fu : Nat) (p0 : Int32) (p1 : Int32) (rec : Int32 → Int32 → Int32 → TM → Option (Int32 × Int32 × TM)) (v55 : Int32) (v56 : Int32) (v57 : Int32) (u58 : TM) : Option (Int32 × Int32 × TM) :=
nm (M_ss u58 0) fun (x61 : Int32) =>
nm (x61 - p0) fun (x62 : Int32) =>
if x62 < v57 then (
some (v55, v56, u58)
)
else (
bd (f_X5_voidsWith fu u58 v57 p0 p1) fun (o64 : Int32 × TM) =>
jn (fun (x66 : Int32) =>
bd (f_X5_lesser fu  v56 o64.1) fun (o70 : Int32) =>
nm (v57 + (1 : Int32)) fun (x71 : Int32) =>
rec x66 o70 x71 o64.2
) fun K91_69 =>
if v56 ≤ o64.1 then (
K91_69 v55
)
else (
K91_69 v57
)
)

def lf_X5_bestRow_54 (fu : Nat) (p0 : Int32) (p1 : Int32) : Nat → Int32 → Int32 → Int32 → TM → Option (Int32 × Int32 × TM) := lq_4 (lb_X5_bestRow_54 fu p0 p1)
def f_X5_bestRow (fu : Nat) (u_mo : TM) (p0 : Int32) (p1 : Int32) (p2 : Int32) : Option (Int32 × TM) :=
bd (f_X5_in fu  p0 ((1 : Int32)) ((20 : Int32))) fun (o31 : Bool) =>
if bI o31 = 0 then (
some ((-100001 : Int32), u_mo)
)
else (
nm (M_ss u_mo 0) fun (x33 : Int32) =>
if x33 < p0 then (
some ((-100001 : Int32), u_mo)
)
else (
bd (f_X5_isLevel fu  p1) fun (o35 : Bool) =>
if bI o35 = 0 then (
some ((-100001 : Int32), u_mo)
)
else (
bd (f_X5_in fu  p2 ((0 : Int32)) ((1 : Int32))) fun (o37 : Bool) =>
if ¬ bI o37 = 0 then (
bd (f_X5_voidsWith fu u_mo ((0 : Int32)) p0 p1) fun (o39 : Int32 × TM) =>
bd (lf_X5_bestRow_54 fu p0 p1 fu ((0 : Int32)) o39.1 ((1 : Int32)) o39.2) fun (z60 : Int32 × Int32 × TM) =>
if ¬ p2 = 0 then (
some (z60.2.1, z60.2.2)
)
else (
some (z60.1, z60.2.2)
)
)
else (
some ((-100001 : Int32), u_mo)
)
)
)
)

abbrev rm_X5_bestRow : Room := { frames := 3, cells := 0, slots := 0, locals := 68 }
set_option maxHeartbeats 4000000 in
set_option maxRecDepth 100000 in
theorem c_X5_bestRow (l : Launch) (D : va_G) (cT : Nat → ClassId) (g : Nat → Nat) (b : Nat) (fu : Nat) (u_mo : TM) (p0 : Int32) (p1 : Int32) (p2 : Int32) (o : Int32 × TM) (hf : f_X5_bestRow fu u_mo p0 p1 p2 = some o) (sz : Nat) : Met l yX5_bestRow wsX5_bestRow rm_X5_bestRow (va_Pc [.ref (g b), .int p0, .int p1, .int p2] (PRE D cT sz (List.flatten [wM cT g b u_mo]))) (QI D o.1 (List.flatten [wM cT g b o.2]) (va_A (List.flatten [wM cT g b u_mo]) sz)) 0 0 (va_A (List.flatten [wM cT g b u_mo]) sz) := by
  refine Met.ofW (cc := cX5_bestRow) (maxL := 8) (ret := (some .int)) (by decide) rfl ?_
  intro p e s m args below meth c s₁ B0 hml hv
  obtain ⟨hav, hsz, hP, hK, hD, hN, hZ⟩ := hv
  have hx := B0.exec
  have hb := B0.bytes
  have hr := B0.returns
  have hts := atoms_spec (ws := wsX5_bestRow) B0.pre
  have hown : s.vm.findClass RX5 = some m.cls := findClass_of_methodNamed B0.named
  have hlocks := B0.notSynchronized
  subst hsz
  have hD := hD.self (sz := s.heap.size)
  have hA : ∀ q : Nat, s.heap.size ≤ q → va_A (List.flatten [wM cT g b u_mo]) s.heap.size q := fun q h => Or.inr h
  generalize va_A (List.flatten [wM cT g b u_mo]) s.heap.size = A at hD hZ hA ⊢
  have hS : va_S A s.heap s.heap [] := va_S.rf
  have hl := lv_entry ([.ref (g b), .int p0, .int p1, .int p2]) (n := 8) (Nat.le_of_ble_eq_true rfl)
  rw [hav]
  rw [lg_entry_eq]
  generalize (lg_sl ([.ref (g b), .int p0, .int p1, .int p2]) ++ List.replicate (8 - (lg_sl ([.ref (g b), .int p0, .int p1, .int p2])).length) Slot.unset).toArray = ls at hl ⊢
  have hl : lv_has ls 8 [(0, .ref (g b)), (1, .int p0), (2, .int p1), (3, .int p2)] := hl
  rw [← hav]
  generalize hQ : MQ below _ _ _ _ _ _ = Q
  show W p l e rm_X5_bestRow s m args below meth c s.heap [] 0 0 Q (F0 m 0 ls [])
  unfold f_X5_bestRow at hf
  refine lv_iload_n hx hb dX5_bestRow_0 rfl (lv_at hl 1 rfl) ?_
  refine lv_iconst (v := 1) hx hb dX5_bestRow_1 (by decide) ?_
  refine lv_bipush (v := 20) hx hb dX5_bestRow_2 (by decide) ?_
  obtain ⟨o31, ho31, hf⟩ := bd_i hf
  refine cl_i [] [0] [wM cT g b u_mo] hP (va_D_adr hD rfl) hA hS (va_runS (As := [.int p0, .int ((1 : Int32)), .int ((20 : Int32))]) (rest := []) ⟨hx, hb, hml, hown, hts⟩ (c_X5_in l D cT g  fu  p0 ((1 : Int32)) ((20 : Int32)) o31 ho31 _) (va_cwS 3 hts gX5_bestRow_X5_in rfl rfl rfl (by decide +kernel) ⟨Nat.le_of_ble_eq_true rfl, Nat.le_of_ble_eq_true rfl⟩) ⟨PRE_blind, PRE_ok [] (by decide) hP (va_D_adr hD rfl) hA hS hK hN hZ⟩ rfl rfl hl.1 rfl (lv_room (Nat.le_of_ble_eq_true rfl)) dX5_bestRow_4 ⟨Nat.le_of_ble_eq_true rfl, Nat.le_of_ble_eq_true rfl⟩) rfl 1 rfl (by decide) (by decide) (fun H locs hP hS => ?_)
  refine lv_if_eq (tgt := 36) hx hb dX5_bestRow_7 (by decide) (fun c32 => ?_) (fun c32 => ?_)
  · replace hf := it_t hf c32
    refine lv_ldc (v := -100001) hx hb hown (hts (.constant RX5 68 (-100001)) (List.mem_of_getElem? (i := 2) rfl)) dX5_bestRow_36 ?_
    obtain rfl := Option.some.inj hf
    subst hQ
    exact en_i hx hb hr hP hS hlocks dX5_bestRow_38
  · replace hf := it_f hf c32
    refine lv_iload_n hx hb dX5_bestRow_10 rfl (lv_at hl 1 rfl) ?_
    refine lv_aload_n hx hb dX5_bestRow_11 rfl (lv_at hl 0 rfl) ?_
    refine va_get (ci := 5) (v := .ref (g (b + 1))) (C := RX5) (T := TX5) (N := 12) hx hb hts iw_X5_bestRow_X5 hown hK hP 0 rfl rfl 0 (by decide) (hts (.fieldLink RX5 7 "BallastTrackModel" "s" "[I") (List.mem_of_getElem? (i := 1) rfl)) (fun _ h9 => h9) rfl dX5_bestRow_12 ?_
    refine lv_iconst (v := 0) hx hb dX5_bestRow_15 (by decide) ?_
    refine va_iald hx hb hK hP 1 0 rfl rfl (by unfold vp_in; decide) dX5_bestRow_16 ?_
    refine lv_topi (fun x33 ex33 => ?_)
    replace hf := nm_i hf ex33
    refine lv_icmp_gt (tgt := 36) hx hb dX5_bestRow_17 (by decide) (fun c34 => ?_) (fun c34 => ?_)
    · replace hf := it_t hf c34
      refine lv_ldc (v := -100001) hx hb hown (hts (.constant RX5 68 (-100001)) (List.mem_of_getElem? (i := 2) rfl)) dX5_bestRow_36 ?_
      obtain rfl := Option.some.inj hf
      subst hQ
      exact en_i hx hb hr hP hS hlocks dX5_bestRow_38
    · replace hf := it_f hf c34
      refine lv_iload_n hx hb dX5_bestRow_20 rfl (lv_at hl 2 rfl) ?_
      obtain ⟨o35, ho35, hf⟩ := bd_i hf
      refine cl_i [] [0] [wM cT g b u_mo] hP (va_D_adr hD rfl) hA hS (va_runS (As := [.int p1]) (rest := []) ⟨hx, hb, hml, hown, hts⟩ (c_X5_isLevel l D cT g  fu  p1 o35 ho35 _) (va_cwS 1 hts gX5_bestRow_X5_isLevel rfl rfl rfl (by decide +kernel) ⟨Nat.le_of_ble_eq_true rfl, Nat.le_of_ble_eq_true rfl⟩) ⟨PRE_blind, PRE_ok [] (by decide) hP (va_D_adr hD rfl) hA hS hK hN hZ⟩ rfl rfl hl.1 rfl (lv_room (Nat.le_of_ble_eq_true rfl)) dX5_bestRow_21 ⟨Nat.le_of_ble_eq_true rfl, Nat.le_of_ble_eq_true rfl⟩) rfl 1 rfl (by decide) (by decide) (fun H locs hP hS => ?_)
      refine lv_if_eq (tgt := 36) hx hb dX5_bestRow_24 (by decide) (fun c36 => ?_) (fun c36 => ?_)
      · replace hf := it_t hf c36
        refine lv_ldc (v := -100001) hx hb hown (hts (.constant RX5 68 (-100001)) (List.mem_of_getElem? (i := 2) rfl)) dX5_bestRow_36 ?_
        obtain rfl := Option.some.inj hf
        subst hQ
        exact en_i hx hb hr hP hS hlocks dX5_bestRow_38
      · replace hf := it_f hf c36
        refine lv_iload_n hx hb dX5_bestRow_27 rfl (lv_at hl 3 rfl) ?_
        refine lv_iconst (v := 0) hx hb dX5_bestRow_28 (by decide) ?_
        refine lv_iconst (v := 1) hx hb dX5_bestRow_29 (by decide) ?_
        obtain ⟨o37, ho37, hf⟩ := bd_i hf
        refine cl_i [] [0] [wM cT g b u_mo] hP (va_D_adr hD rfl) hA hS (va_runS (As := [.int p2, .int ((0 : Int32)), .int ((1 : Int32))]) (rest := []) ⟨hx, hb, hml, hown, hts⟩ (c_X5_in l D cT g  fu  p2 ((0 : Int32)) ((1 : Int32)) o37 ho37 _) (va_cwS 3 hts gX5_bestRow_X5_in rfl rfl rfl (by decide +kernel) ⟨Nat.le_of_ble_eq_true rfl, Nat.le_of_ble_eq_true rfl⟩) ⟨PRE_blind, PRE_ok [] (by decide) hP (va_D_adr hD rfl) hA hS hK hN hZ⟩ rfl rfl hl.1 rfl (lv_room (Nat.le_of_ble_eq_true rfl)) dX5_bestRow_30 ⟨Nat.le_of_ble_eq_true rfl, Nat.le_of_ble_eq_true rfl⟩) rfl 1 rfl (by decide) (by decide) (fun H locs hP hS => ?_)
        refine lv_if_ne (tgt := 39) hx hb dX5_bestRow_33 (by decide) (fun c38 => ?_) (fun c38 => ?_)
        · replace hf := it_t hf c38
          refine lv_iconst (v := 0) hx hb dX5_bestRow_39 (by decide) ?_
          refine lv_istore (lv' := [(4, .int ((0 : Int32))), (0, .ref (g b)), (1, .int p0), (2, .int p1), (3, .int p2)]) hx hb dX5_bestRow_40 hl (by decide) rfl (fun ls hl => ?_)
          refine lv_aload_n hx hb dX5_bestRow_42 rfl (lv_at hl 1 rfl) ?_
          refine lv_iconst (v := 0) hx hb dX5_bestRow_43 (by decide) ?_
          refine lv_iload_n hx hb dX5_bestRow_44 rfl (lv_at hl 2 rfl) ?_
          refine lv_iload_n hx hb dX5_bestRow_45 rfl (lv_at hl 3 rfl) ?_
          obtain ⟨o39, ho39, hf⟩ := bd_i hf
          refine cl_i [0] [] [wM cT g b o39.2] hP (va_D_adr hD rfl) hA hS (va_runV (As := [.int ((0 : Int32)), .int p0, .int p1]) (rest := []) ⟨hx, hb, hml, hown, hts⟩ (c_X5_voidsWith l D cT g b fu u_mo ((0 : Int32)) p0 p1 o39 ho39 _) (cwV 3 hts gX5_bestRow_X5_voidsWith rfl rfl rfl (by decide +kernel) ⟨Nat.le_of_ble_eq_true rfl, Nat.le_of_ble_eq_true rfl⟩) ⟨PRE_blind, va_recv hK hP (ci := 5) (q0 := 0) rfl rfl, PRE_ok [0] (by decide) hP (va_D_adr hD rfl) hA hS hK hN hZ⟩ rfl rfl hl.1 rfl (lv_room (Nat.le_of_ble_eq_true rfl)) dX5_bestRow_46 ⟨Nat.le_of_ble_eq_true rfl, Nat.le_of_ble_eq_true rfl⟩) rfl 1 rfl (by decide) (by decide) (fun H locs hP hS => ?_)
          refine lv_istore (lv' := [(5, .int o39.1), (4, .int ((0 : Int32))), (0, .ref (g b)), (1, .int p0), (2, .int p1), (3, .int p2)]) hx hb dX5_bestRow_49 hl (by decide) rfl (fun ls hl => ?_)
          refine lv_iconst (v := 1) hx hb dX5_bestRow_51 (by decide) ?_
          refine lv_istore (lv' := [(6, .int ((1 : Int32))), (5, .int o39.1), (4, .int ((0 : Int32))), (0, .ref (g b)), (1, .int p0), (2, .int p1), (3, .int p2)]) hx hb dX5_bestRow_52 hl (by decide) rfl (fun ls hl => ?_)
          obtain ⟨z60, hz60, hf⟩ := bd_i hf
          have hL54 : ∀ (n : Nat) (v55 : Int32) (v56 : Int32) (v57 : Int32) (u58 : TM) (z59 : Int32 × Int32 × TM), lf_X5_bestRow_54 fu p0 p1 n v55 v56 v57 u58 = some z59 → ∀ (H : Heap) (locs : List Loc) (ls : Array Slot), va_P D vwCl (List.flatten [wM cT g b u58]) H → va_S A s.heap H locs → lv_has ls 8 [(0, .ref (g b)), (1, .int p0), (2, .int p1), (3, .int p2), (4, .int v55), (5, .int v56), (6, .int v57)] → (∀ (H : Heap) (locs : List Loc) (ls : Array Slot), va_P D vwCl (List.flatten [wM cT g b z59.2.2]) H → va_S A s.heap H locs → lv_has ls 8 [(3, .int p2), (4, .int z59.1), (5, .int z59.2.1)] → W p l e rm_X5_bestRow s m args below meth c H locs 0 0 Q (F0 m 108 ls [])) → W p l e rm_X5_bestRow s m args below meth c H locs 0 0 Q (F0 m 54 ls []) := by
            refine lq_4_ind (F := lb_X5_bestRow_54 fu p0 p1) (fun rec ih v55 v56 v57 u58 z59 hf H locs ls hP hS hl kx => ?_)
            unfold lb_X5_bestRow_54 at hf
            refine lv_iload hx hb dX5_bestRow_54 (lv_at hl 6 rfl) ?_
            refine lv_aload_n hx hb dX5_bestRow_56 rfl (lv_at hl 0 rfl) ?_
            refine va_get (ci := 5) (v := .ref (g (b + 1))) (C := RX5) (T := TX5) (N := 12) hx hb hts iw_X5_bestRow_X5 hown hK hP 0 rfl rfl 0 (by decide) (hts (.fieldLink RX5 7 "BallastTrackModel" "s" "[I") (List.mem_of_getElem? (i := 1) rfl)) (fun _ h9 => h9) rfl dX5_bestRow_57 ?_
            refine lv_iconst (v := 0) hx hb dX5_bestRow_60 (by decide) ?_
            refine va_iald hx hb hK hP 1 0 rfl rfl (by unfold vp_in; decide) dX5_bestRow_61 ?_
            refine lv_topi (fun x61 ex61 => ?_)
            replace hf := nm_i hf ex61
            refine lv_iload_n hx hb dX5_bestRow_62 rfl (lv_at hl 1 rfl) ?_
            refine lv_isub hx hb dX5_bestRow_63 ?_
            refine lv_topi (fun x62 ex62 => ?_)
            replace hf := nm_i hf ex62
            refine lv_icmp_gt (tgt := 108) hx hb dX5_bestRow_64 (by decide) (fun c63 => ?_) (fun c63 => ?_)
            · replace hf := it_t hf c63
              obtain rfl := Option.some.inj hf
              exact kx _ _ _ hP hS (lv_sub hl [3, 4, 5] rfl)
            · replace hf := it_f hf c63
              refine lv_aload_n hx hb dX5_bestRow_67 rfl (lv_at hl 0 rfl) ?_
              refine lv_iload hx hb dX5_bestRow_68 (lv_at hl 6 rfl) ?_
              refine lv_iload_n hx hb dX5_bestRow_70 rfl (lv_at hl 1 rfl) ?_
              refine lv_iload_n hx hb dX5_bestRow_71 rfl (lv_at hl 2 rfl) ?_
              obtain ⟨o64, ho64, hf⟩ := bd_i hf
              refine cl_i [0] [] [wM cT g b o64.2] hP (va_D_adr hD rfl) hA hS (va_runV (As := [.int v57, .int p0, .int p1]) (rest := []) ⟨hx, hb, hml, hown, hts⟩ (c_X5_voidsWith l D cT g b fu u58 v57 p0 p1 o64 ho64 _) (cwV 3 hts gX5_bestRow_X5_voidsWith rfl rfl rfl (by decide +kernel) ⟨Nat.le_of_ble_eq_true rfl, Nat.le_of_ble_eq_true rfl⟩) ⟨PRE_blind, va_recv hK hP (ci := 5) (q0 := 0) rfl rfl, PRE_ok [0] (by decide) hP (va_D_adr hD rfl) hA hS hK hN hZ⟩ rfl rfl hl.1 rfl (lv_room (Nat.le_of_ble_eq_true rfl)) dX5_bestRow_72 ⟨Nat.le_of_ble_eq_true rfl, Nat.le_of_ble_eq_true rfl⟩) rfl 1 rfl (by decide) (by decide) (fun H locs hP hS => ?_)
              refine lv_istore (lv' := [(7, .int o64.1), (0, .ref (g b)), (1, .int p0), (2, .int p1), (3, .int p2), (4, .int v55), (5, .int v56), (6, .int v57)]) hx hb dX5_bestRow_75 hl (by decide) rfl (fun ls hl => ?_)
              refine lv_iload hx hb dX5_bestRow_77 (lv_at hl 0 rfl) ?_
              refine lv_iload hx hb dX5_bestRow_79 (lv_at hl 6 rfl) ?_
              obtain ⟨K91_69, eK91_69, hf⟩ := jn_i hf
              have hK91_69 : ∀ (x66 : Int32) (H : Heap) (locs : List Loc) (ls : Array Slot), K91_69 x66 = some z59 → va_P D vwCl (List.flatten [wM cT g b o64.2]) H → va_S A s.heap H locs → lv_has ls 8 [(0, .ref (g b)), (1, .int p0), (2, .int p1), (3, .int p2), (5, .int v56), (6, .int v57), (7, .int o64.1)] → W p l e rm_X5_bestRow s m args below meth c H locs 0 0 Q (F0 m 91 ls [.int x66]) := by
                intro x66 H locs ls hf hP hS hl
                rw [eK91_69] at hf
                refine lv_istore (lv' := [(4, .int x66), (0, .ref (g b)), (1, .int p0), (2, .int p1), (3, .int p2), (5, .int v56), (6, .int v57), (7, .int o64.1)]) hx hb dX5_bestRow_91 hl (by decide) rfl (fun ls hl => ?_)
                refine lv_iload hx hb dX5_bestRow_93 (lv_at hl 5 rfl) ?_
                refine lv_iload hx hb dX5_bestRow_95 (lv_at hl 7 rfl) ?_
                obtain ⟨o70, ho70, hf⟩ := bd_i hf
                refine cl_i [] [0] [wM cT g b o64.2] hP (va_D_adr hD rfl) hA hS (va_runS (As := [.int v56, .int o64.1]) (rest := []) ⟨hx, hb, hml, hown, hts⟩ (c_X5_lesser l D cT g  fu  v56 o64.1 o70 ho70 _) (va_cwS 2 hts gX5_bestRow_X5_lesser rfl rfl rfl (by decide +kernel) ⟨Nat.le_of_ble_eq_true rfl, Nat.le_of_ble_eq_true rfl⟩) ⟨PRE_blind, PRE_ok [] (by decide) hP (va_D_adr hD rfl) hA hS hK hN hZ⟩ rfl rfl hl.1 rfl (lv_room (Nat.le_of_ble_eq_true rfl)) dX5_bestRow_97 ⟨Nat.le_of_ble_eq_true rfl, Nat.le_of_ble_eq_true rfl⟩) rfl 1 rfl (by decide) (by decide) (fun H locs hP hS => ?_)
                refine lv_istore (lv' := [(5, .int o70), (4, .int x66), (0, .ref (g b)), (1, .int p0), (2, .int p1), (3, .int p2), (6, .int v57), (7, .int o64.1)]) hx hb dX5_bestRow_100 hl (by decide) rfl (fun ls hl => ?_)
                obtain ⟨x71, ex71⟩ : ∃ z : Int32, z = v57 + (1 : Int32) := ⟨_, rfl⟩
                replace hf := nm_i hf ex71
                refine lv_iinc (v := x71) (lv' := [(6, .int x71), (5, .int o70), (4, .int x66), (0, .ref (g b)), (1, .int p0), (2, .int p1), (3, .int p2), (7, .int o64.1)]) hx hb dX5_bestRow_102 hl (k := 6) rfl (by rw [ex71]; rfl) (by decide) rfl (fun ls hl => ?_)
                refine lv_goto (tgt := 54) hx hb dX5_bestRow_105 (by decide) ?_
                exact ih _ _ _ _ _ hf _ _ _ hP hS (lv_sub hl [3, 4, 5, 6, 2, 1, 0] rfl) kx
              clear eK91_69
              refine lv_icmp_ge (tgt := 89) hx hb dX5_bestRow_81 (by decide) (fun c72 => ?_) (fun c72 => ?_)
              · replace hf := it_t hf c72
                refine lv_iload hx hb dX5_bestRow_89 (lv_at hl 5 rfl) ?_
                exact hK91_69 _ _ _ _ hf hP hS (lv_sub hl [1, 2, 3, 4, 6, 7, 0] rfl)
              · replace hf := it_f hf c72
                refine lv_iload hx hb dX5_bestRow_84 (lv_at hl 7 rfl) ?_
                refine lv_goto (tgt := 91) hx hb dX5_bestRow_86 (by decide) ?_
                exact hK91_69 _ _ _ _ hf hP hS (lv_sub hl [1, 2, 3, 4, 6, 7, 0] rfl)
          refine hL54 fu _ _ _ _ _ hz60 _ _ _ hP hS (lv_sub hl [3, 4, 5, 6, 2, 1, 0] rfl) (fun H locs ls hP hS hl => ?_)
          refine lv_iload_n hx hb dX5_bestRow_108 rfl (lv_at hl 0 rfl) ?_
          refine lv_if_ne (tgt := 117) hx hb dX5_bestRow_109 (by decide) (fun c73 => ?_) (fun c73 => ?_)
          · replace hf := it_t hf c73
            refine lv_iload hx hb dX5_bestRow_117 (lv_at hl 2 rfl) ?_
            obtain rfl := Option.some.inj hf
            subst hQ
            exact en_i hx hb hr hP hS hlocks dX5_bestRow_119
          · replace hf := it_f hf (not_not_intro c73)
            refine lv_iload hx hb dX5_bestRow_112 (lv_at hl 1 rfl) ?_
            refine lv_goto (tgt := 119) hx hb dX5_bestRow_114 (by decide) ?_
            obtain rfl := Option.some.inj hf
            subst hQ
            exact en_i hx hb hr hP hS hlocks dX5_bestRow_119
        · replace hf := it_f hf (not_not_intro c38)
          refine lv_ldc (v := -100001) hx hb hown (hts (.constant RX5 68 (-100001)) (List.mem_of_getElem? (i := 2) rfl)) dX5_bestRow_36 ?_
          obtain rfl := Option.some.inj hf
          subst hQ
          exact en_i hx hb hr hP hS hlocks dX5_bestRow_38
theorem iw_X5_minutesLeft_X5 : ∀ w ∈ u_ws RX5 TX5 12, w ∈ wsX5_minutesLeft := by decide +kernel
def f_X5_minutesLeft (fu : Nat) (u_mo : TM)  : Option (Int32 × TM) :=
bd (f_X5_putAside fu u_mo ) fun (o8 : TM) =>
nm (M_ss o8 12) fun (x9 : Int32) =>
bd (f_X5_works fu o8 ((1000000 : Int32))) fun (o10 : Int32 × TM) =>
nm (M_ss o10.2 12) fun (x11 : Int32) =>
nm (x11 - x9) fun (x12 : Int32) =>
bd (f_X5_putBack fu o10.2 ) fun (o13 : TM) =>
if ¬ o10.1 = 0 then (
some (x12, o13)
)
else (
some ((0 : Int32), o13)
)

abbrev rm_X5_minutesLeft : Room := { frames := 3, cells := 0, slots := 0, locals := 70 }
set_option maxHeartbeats 4000000 in
set_option maxRecDepth 100000 in
theorem c_X5_minutesLeft (l : Launch) (D : va_G) (cT : Nat → ClassId) (g : Nat → Nat) (b : Nat) (fu : Nat) (u_mo : TM)  (o : Int32 × TM) (hf : f_X5_minutesLeft fu u_mo  = some o) (sz : Nat) : Met l yX5_minutesLeft wsX5_minutesLeft rm_X5_minutesLeft (va_Pc [.ref (g b)] (PRE D cT sz (List.flatten [wM cT g b u_mo]))) (QI D o.1 (List.flatten [wM cT g b o.2]) (va_A (List.flatten [wM cT g b u_mo]) sz)) 0 0 (va_A (List.flatten [wM cT g b u_mo]) sz) := by
  refine Met.ofW (cc := cX5_minutesLeft) (maxL := 4) (ret := (some .int)) (by decide) rfl ?_
  intro p e s m args below meth c s₁ B0 hml hv
  obtain ⟨hav, hsz, hP, hK, hD, hN, hZ⟩ := hv
  have hx := B0.exec
  have hb := B0.bytes
  have hr := B0.returns
  have hts := atoms_spec (ws := wsX5_minutesLeft) B0.pre
  have hown : s.vm.findClass RX5 = some m.cls := findClass_of_methodNamed B0.named
  have hlocks := B0.notSynchronized
  subst hsz
  have hD := hD.self (sz := s.heap.size)
  have hA : ∀ q : Nat, s.heap.size ≤ q → va_A (List.flatten [wM cT g b u_mo]) s.heap.size q := fun q h => Or.inr h
  generalize va_A (List.flatten [wM cT g b u_mo]) s.heap.size = A at hD hZ hA ⊢
  have hS : va_S A s.heap s.heap [] := va_S.rf
  have hl := lv_entry ([.ref (g b)]) (n := 4) (Nat.le_of_ble_eq_true rfl)
  rw [hav]
  rw [lg_entry_eq]
  generalize (lg_sl ([.ref (g b)]) ++ List.replicate (4 - (lg_sl ([.ref (g b)])).length) Slot.unset).toArray = ls at hl ⊢
  have hl : lv_has ls 4 [(0, .ref (g b))] := hl
  rw [← hav]
  generalize hQ : MQ below _ _ _ _ _ _ = Q
  show W p l e rm_X5_minutesLeft s m args below meth c s.heap [] 0 0 Q (F0 m 0 ls [])
  unfold f_X5_minutesLeft at hf
  refine lv_aload_n hx hb dX5_minutesLeft_0 rfl (lv_at hl 0 rfl) ?_
  obtain ⟨o8, ho8, hf⟩ := bd_i hf
  refine cl_v [0] [] [wM cT g b o8] hP (va_D_adr hD rfl) hA hS (va_runV (As := []) (rest := []) ⟨hx, hb, hml, hown, hts⟩ (c_X5_putAside l D cT g b fu u_mo  o8 ho8 _) (cwV 0 hts gX5_minutesLeft_X5_putAside rfl rfl rfl (by decide +kernel) ⟨Nat.le_of_ble_eq_true rfl, Nat.le_of_ble_eq_true rfl⟩) ⟨PRE_blind, va_recv hK hP (ci := 5) (q0 := 0) rfl rfl, PRE_ok [0] (by decide) hP (va_D_adr hD rfl) hA hS hK hN hZ⟩ rfl rfl hl.1 rfl (lv_room (Nat.le_of_ble_eq_true rfl)) dX5_minutesLeft_1 ⟨Nat.le_of_ble_eq_true rfl, Nat.le_of_ble_eq_true rfl⟩) rfl 1 rfl (by decide) (by decide) (fun H locs hP hS => ?_)
  refine lv_aload_n hx hb dX5_minutesLeft_4 rfl (lv_at hl 0 rfl) ?_
  refine va_get (ci := 5) (v := .ref (g (b + 1))) (C := RX5) (T := TX5) (N := 12) hx hb hts iw_X5_minutesLeft_X5 hown hK hP 0 rfl rfl 0 (by decide) (hts (.fieldLink RX5 7 "BallastTrackModel" "s" "[I") (List.mem_of_getElem? (i := 1) rfl)) (fun _ h9 => h9) rfl dX5_minutesLeft_5 ?_
  refine lv_bipush (v := 12) hx hb dX5_minutesLeft_8 (by decide) ?_
  refine va_iald hx hb hK hP 1 0 rfl rfl (by unfold vp_in; decide) dX5_minutesLeft_10 ?_
  refine lv_topi (fun x9 ex9 => ?_)
  replace hf := nm_i hf ex9
  refine lv_istore_n (lv' := [(1, .int x9), (0, .ref (g b))]) hx hb dX5_minutesLeft_11 rfl hl (by decide) rfl (fun ls hl => ?_)
  refine lv_aload_n hx hb dX5_minutesLeft_12 rfl (lv_at hl 1 rfl) ?_
  refine lv_ldc (v := 1000000) hx hb hown (hts (.constant RX5 170 (1000000)) (List.mem_of_getElem? (i := 2) rfl)) dX5_minutesLeft_13 ?_
  obtain ⟨o10, ho10, hf⟩ := bd_i hf
  refine cl_i [0] [] [wM cT g b o10.2] hP (va_D_adr hD rfl) hA hS (va_runV (As := [.int ((1000000 : Int32))]) (rest := []) ⟨hx, hb, hml, hown, hts⟩ (c_X5_works l D cT g b fu o8 ((1000000 : Int32)) o10 ho10 _) (cwV 1 hts gX5_minutesLeft_X5_works rfl rfl rfl (by decide +kernel) ⟨Nat.le_of_ble_eq_true rfl, Nat.le_of_ble_eq_true rfl⟩) ⟨PRE_blind, va_recv hK hP (ci := 5) (q0 := 0) rfl rfl, PRE_ok [0] (by decide) hP (va_D_adr hD rfl) hA hS hK hN hZ⟩ rfl rfl hl.1 rfl (lv_room (Nat.le_of_ble_eq_true rfl)) dX5_minutesLeft_15 ⟨Nat.le_of_ble_eq_true rfl, Nat.le_of_ble_eq_true rfl⟩) rfl 1 rfl (by decide) (by decide) (fun H locs hP hS => ?_)
  refine lv_istore_n (lv' := [(2, .int o10.1), (1, .int x9), (0, .ref (g b))]) hx hb dX5_minutesLeft_18 rfl hl (by decide) rfl (fun ls hl => ?_)
  refine lv_aload_n hx hb dX5_minutesLeft_19 rfl (lv_at hl 2 rfl) ?_
  refine va_get (ci := 5) (v := .ref (g (b + 1))) (C := RX5) (T := TX5) (N := 12) hx hb hts iw_X5_minutesLeft_X5 hown hK hP 0 rfl rfl 0 (by decide) (hts (.fieldLink RX5 7 "BallastTrackModel" "s" "[I") (List.mem_of_getElem? (i := 1) rfl)) (fun _ h9 => h9) rfl dX5_minutesLeft_20 ?_
  refine lv_bipush (v := 12) hx hb dX5_minutesLeft_23 (by decide) ?_
  refine va_iald hx hb hK hP 1 0 rfl rfl (by unfold vp_in; decide) dX5_minutesLeft_25 ?_
  refine lv_topi (fun x11 ex11 => ?_)
  replace hf := nm_i hf ex11
  refine lv_iload_n hx hb dX5_minutesLeft_26 rfl (lv_at hl 1 rfl) ?_
  refine lv_isub hx hb dX5_minutesLeft_27 ?_
  refine lv_topi (fun x12 ex12 => ?_)
  replace hf := nm_i hf ex12
  refine lv_istore_n (lv' := [(3, .int x12), (2, .int o10.1), (1, .int x9), (0, .ref (g b))]) hx hb dX5_minutesLeft_28 rfl hl (by decide) rfl (fun ls hl => ?_)
  refine lv_aload_n hx hb dX5_minutesLeft_29 rfl (lv_at hl 3 rfl) ?_
  obtain ⟨o13, ho13, hf⟩ := bd_i hf
  refine cl_v [0] [] [wM cT g b o13] hP (va_D_adr hD rfl) hA hS (va_runV (As := []) (rest := []) ⟨hx, hb, hml, hown, hts⟩ (c_X5_putBack l D cT g b fu o10.2  o13 ho13 _) (cwV 0 hts gX5_minutesLeft_X5_putBack rfl rfl rfl (by decide +kernel) ⟨Nat.le_of_ble_eq_true rfl, Nat.le_of_ble_eq_true rfl⟩) ⟨PRE_blind, va_recv hK hP (ci := 5) (q0 := 0) rfl rfl, PRE_ok [0] (by decide) hP (va_D_adr hD rfl) hA hS hK hN hZ⟩ rfl rfl hl.1 rfl (lv_room (Nat.le_of_ble_eq_true rfl)) dX5_minutesLeft_30 ⟨Nat.le_of_ble_eq_true rfl, Nat.le_of_ble_eq_true rfl⟩) rfl 1 rfl (by decide) (by decide) (fun H locs hP hS => ?_)
  refine lv_iload_n hx hb dX5_minutesLeft_33 rfl (lv_at hl 1 rfl) ?_
  refine lv_if_ne (tgt := 41) hx hb dX5_minutesLeft_34 (by decide) (fun c14 => ?_) (fun c14 => ?_)
  · replace hf := it_t hf c14
    refine lv_iload_n hx hb dX5_minutesLeft_41 rfl (lv_at hl 0 rfl) ?_
    obtain rfl := Option.some.inj hf
    subst hQ
    exact en_i hx hb hr hP hS hlocks dX5_minutesLeft_42
  · replace hf := it_f hf (not_not_intro c14)
    refine lv_iconst (v := 0) hx hb dX5_minutesLeft_37 (by decide) ?_
    refine lv_goto (tgt := 42) hx hb dX5_minutesLeft_38 (by decide) ?_
    obtain rfl := Option.some.inj hf
    subst hQ
    exact en_i hx hb hr hP hS hlocks dX5_minutesLeft_42
