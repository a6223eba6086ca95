theorem iw_X5_bestRow_X5 : ∀ w ∈ u_ws RX5 TX5 12, w ∈ wsX5_bestRow := by decide +kernel
def lb_X5_bestRow_54 (fu : Nat) (p0 : Int32) (p1 : Int32) (rec : Int32 → Int32 → Int32 → TM → Option (Int32 × Int32 × TM)) (v59 : Int32) (v60 : Int32) (v61 : Int32) (u62 : TM) : Option (Int32 × Int32 × TM) :=
ix ((0 : Int32)) 281 <|
nm ((M_ss u62) ((0 : Int32)).toNatClampNeg) fun (x66 : Int32) =>
nm (x66 - p0) fun (x67 : Int32) =>
if x67 < v61 then (
some (v59, v60, u62)
)
else (
bd (f_X5_voidsWith fu u62 v61 p0 p1) fun (o69 : Int32 × TM) =>
jn (fun (x71 : Int32) =>
bd (f_X5_lesser fu  v60 o69.1) fun (o75 : Int32) =>
nm (v61 + (1 : Int32)) fun (x76 : Int32) =>
rec x71 o75 x76 o69.2
) fun K91_74 =>
if v60 ≤ o69.1 then (
K91_74 v59
)
else (
K91_74 v61
)
)

def lf_X5_bestRow_54 (fu : Nat) (p0 : Int32) (p1 : Int32) : Nat → Int32 → Int32 → Int32 → TM → Option (Int32 × Int32 × TM) := lq_4 (lb_X5_bestRow_54 fu p0 p1)
def f_X5_bestRow (fu : Nat) (u_mo : TM) (p0 : Int32) (p1 : Int32) (p2 : Int32) : Option (Int32 × TM) :=
bd (f_X5_in fu  p0 ((1 : Int32)) ((20 : Int32))) fun (o33 : Bool) =>
if bI o33 = 0 then (
some ((-100001 : Int32), u_mo)
)
else (
ix ((0 : Int32)) 281 <|
nm ((M_ss u_mo) ((0 : Int32)).toNatClampNeg) fun (x36 : Int32) =>
if x36 < p0 then (
some ((-100001 : Int32), u_mo)
)
else (
bd (f_X5_isLevel fu  p1) fun (o38 : Bool) =>
if bI o38 = 0 then (
some ((-100001 : Int32), u_mo)
)
else (
bd (f_X5_in fu  p2 ((0 : Int32)) ((1 : Int32))) fun (o40 : Bool) =>
if ¬ bI o40 = 0 then (
bd (f_X5_voidsWith fu u_mo ((0 : Int32)) p0 p1) fun (o42 : Int32 × TM) =>
bd (lf_X5_bestRow_54 fu p0 p1 fu ((0 : Int32)) o42.1 ((1 : Int32)) o42.2) fun (z64 : Int32 × Int32 × TM) =>
if ¬ p2 = 0 then (
some (z64.2.1, z64.2.2)
)
else (
some (z64.1, z64.2.2)
)
)
else (
some ((-100001 : Int32), u_mo)
)
)
)
)

abbrev rm_X5_bestRow : Room := { frames := 3, cells := 0, slots := 0, locals := 68 }
set_option maxHeartbeats 4000000 in
set_option maxRecDepth 100000 in
theorem c_X5_bestRow (l : Launch) (D : va_G) (cT : Nat → ClassId) (g : Nat → Nat) (b : Nat) (fu : Nat) (u_mo : TM) (p0 : Int32) (p1 : Int32) (p2 : Int32) (o : Int32 × TM) (hf : f_X5_bestRow fu u_mo p0 p1 p2 = some o) (sz : Nat) : Met l yX5_bestRow wsX5_bestRow rm_X5_bestRow (va_Pc [.ref (g b), .int p0, .int p1, .int p2] (PRE D cT sz (List.flatten [wM cT g b u_mo]))) (QI D o.1 (List.flatten [wM cT g b o.2]) (va_A (List.flatten [wM cT g b u_mo]) sz)) 0 0 (va_A (List.flatten [wM cT g b u_mo]) sz) := by
  refine Met.ofW (cc := cX5_bestRow) (maxL := 8) (ret := (some .int)) (by decide) rfl ?_
  intro p e s m args below meth c s₁ B0 hml hv
  obtain ⟨hav, hsz, hP, hK, hD, hN, hZ⟩ := hv
  have hx := B0.exec
  have hb := B0.bytes
  have hr := B0.returns
  have hts := atoms_spec (ws := wsX5_bestRow) B0.pre
  have hown : s.vm.findClass RX5 = some m.cls := findClass_of_methodNamed B0.named
  have hlocks := B0.notSynchronized
  subst hsz
  have hD := hD.self (sz := s.heap.size)
  have hA : ∀ q : Nat, s.heap.size ≤ q → va_A (List.flatten [wM cT g b u_mo]) s.heap.size q := fun q h => Or.inr h
  generalize va_A (List.flatten [wM cT g b u_mo]) s.heap.size = A at hD hZ hA ⊢
  have hS : va_S A s.heap s.heap [] := va_S.rf
  have hl := lv_entry ([.ref (g b), .int p0, .int p1, .int p2]) (n := 8) (Nat.le_of_ble_eq_true rfl)
  rw [hav]
  rw [lg_entry_eq]
  generalize (lg_sl ([.ref (g b), .int p0, .int p1, .int p2]) ++ List.replicate (8 - (lg_sl ([.ref (g b), .int p0, .int p1, .int p2])).length) Slot.unset).toArray = ls at hl ⊢
  have hl : lv_has ls 8 [(0, .ref (g b)), (1, .int p0), (2, .int p1), (3, .int p2)] := hl
  rw [← hav]
  generalize hQ : MQ below _ _ _ _ _ _ = Q
  show W p l e rm_X5_bestRow s m args below meth c s.heap [] 0 0 Q (F0 m 0 ls [])
  unfold f_X5_bestRow at hf
  refine lv_iload_n hx hb dX5_bestRow_0 rfl (lv_at hl 1 rfl) ?_
  refine lv_iconst (v := 1) hx hb dX5_bestRow_1 (by decide) ?_
  refine lv_bipush (v := 20) hx hb dX5_bestRow_2 (by decide) ?_
  obtain ⟨o33, ho33, hf⟩ := bd_i hf
  refine cl_i [] [0] [wM cT g b u_mo] hP (va_D_adr hD rfl) hA hS (va_runS (As := [.int p0, .int ((1 : Int32)), .int ((20 : Int32))]) (rest := []) ⟨hx, hb, hml, hown, hts⟩ (c_X5_in l D cT g  fu  p0 ((1 : Int32)) ((20 : Int32)) o33 ho33 _) (va_cwS 3 hts gX5_bestRow_X5_in rfl rfl rfl (by decide +kernel) ⟨Nat.le_of_ble_eq_true rfl, Nat.le_of_ble_eq_true rfl⟩) ⟨PRE_blind, PRE_ok [] (by decide) hP (va_D_adr hD rfl) hA hS hK hN hZ⟩ rfl rfl hl.1 rfl (lv_room (Nat.le_of_ble_eq_true rfl)) dX5_bestRow_4 ⟨Nat.le_of_ble_eq_true rfl, Nat.le_of_ble_eq_true rfl⟩) rfl 1 rfl (by decide) (by decide) (fun H locs hP hS => ?_)
  refine lv_if_eq (tgt := 36) hx hb dX5_bestRow_7 (by decide) (fun c34 => ?_) (fun c34 => ?_)
  · replace hf := it_t hf c34
    refine lv_ldc (v := -100001) hx hb hown (hts (.constant RX5 68 (-100001)) (List.mem_of_getElem? (i := 2) rfl)) dX5_bestRow_36 ?_
    obtain rfl := Option.some.inj hf
    subst hQ
    exact en_i hx hb hr hP hS hlocks dX5_bestRow_38
  · replace hf := it_f hf c34
    refine lv_iload_n hx hb dX5_bestRow_10 rfl (lv_at hl 1 rfl) ?_
    refine lv_aload_n hx hb dX5_bestRow_11 rfl (lv_at hl 0 rfl) ?_
    refine va_get (ci := 5) (v := .ref (g (b + 1))) (C := RX5) (T := TX5) (N := 12) hx hb hts iw_X5_bestRow_X5 hown hK hP 0 rfl rfl 0 (by decide) (hts (.fieldLink RX5 7 "BallastTrackModel" "s" "[I") (List.mem_of_getElem? (i := 1) rfl)) (fun _ h9 => h9) rfl dX5_bestRow_12 ?_
    refine lv_iconst (v := 0) hx hb dX5_bestRow_15 (by decide) ?_
    obtain ⟨hi35, hf⟩ := ix_i hf
    refine va_iald hx hb hK hP 1 0 rfl rfl hi35 dX5_bestRow_16 ?_
    refine lv_topi (fun x36 ex36 => ?_)
    replace hf := nm_i hf ex36
    refine lv_icmp_gt (tgt := 36) hx hb dX5_bestRow_17 (by decide) (fun c37 => ?_) (fun c37 => ?_)
    · replace hf := it_t hf c37
      refine lv_ldc (v := -100001) hx hb hown (hts (.constant RX5 68 (-100001)) (List.mem_of_getElem? (i := 2) rfl)) dX5_bestRow_36 ?_
      obtain rfl := Option.some.inj hf
      subst hQ
      exact en_i hx hb hr hP hS hlocks dX5_bestRow_38
    · replace hf := it_f hf c37
      refine lv_iload_n hx hb dX5_bestRow_20 rfl (lv_at hl 2 rfl) ?_
      obtain ⟨o38, ho38, hf⟩ := bd_i hf
      refine cl_i [] [0] [wM cT g b u_mo] hP (va_D_adr hD rfl) hA hS (va_runS (As := [.int p1]) (rest := []) ⟨hx, hb, hml, hown, hts⟩ (c_X5_isLevel l D cT g  fu  p1 o38 ho38 _) (va_cwS 1 hts gX5_bestRow_X5_isLevel rfl rfl rfl (by decide +kernel) ⟨Nat.le_of_ble_eq_true rfl, Nat.le_of_ble_eq_true rfl⟩) ⟨PRE_blind, PRE_ok [] (by decide) hP (va_D_adr hD rfl) hA hS hK hN hZ⟩ rfl rfl hl.1 rfl (lv_room (Nat.le_of_ble_eq_true rfl)) dX5_bestRow_21 ⟨Nat.le_of_ble_eq_true rfl, Nat.le_of_ble_eq_true rfl⟩) rfl 1 rfl (by decide) (by decide) (fun H locs hP hS => ?_)
      refine lv_if_eq (tgt := 36) hx hb dX5_bestRow_24 (by decide) (fun c39 => ?_) (fun c39 => ?_)
      · replace hf := it_t hf c39
        refine lv_ldc (v := -100001) hx hb hown (hts (.constant RX5 68 (-100001)) (List.mem_of_getElem? (i := 2) rfl)) dX5_bestRow_36 ?_
        obtain rfl := Option.some.inj hf
        subst hQ
        exact en_i hx hb hr hP hS hlocks dX5_bestRow_38
      · replace hf := it_f hf c39
        refine lv_iload_n hx hb dX5_bestRow_27 rfl (lv_at hl 3 rfl) ?_
        refine lv_iconst (v := 0) hx hb dX5_bestRow_28 (by decide) ?_
        refine lv_iconst (v := 1) hx hb dX5_bestRow_29 (by decide) ?_
        obtain ⟨o40, ho40, hf⟩ := bd_i hf
        refine cl_i [] [0] [wM cT g b u_mo] hP (va_D_adr hD rfl) hA hS (va_runS (As := [.int p2, .int ((0 : Int32)), .int ((1 : Int32))]) (rest := []) ⟨hx, hb, hml, hown, hts⟩ (c_X5_in l D cT g  fu  p2 ((0 : Int32)) ((1 : Int32)) o40 ho40 _) (va_cwS 3 hts gX5_bestRow_X5_in rfl rfl rfl (by decide +kernel) ⟨Nat.le_of_ble_eq_true rfl, Nat.le_of_ble_eq_true rfl⟩) ⟨PRE_blind, PRE_ok [] (by decide) hP (va_D_adr hD rfl) hA hS hK hN hZ⟩ rfl rfl hl.1 rfl (lv_room (Nat.le_of_ble_eq_true rfl)) dX5_bestRow_30 ⟨Nat.le_of_ble_eq_true rfl, Nat.le_of_ble_eq_true rfl⟩) rfl 1 rfl (by decide) (by decide) (fun H locs hP hS => ?_)
        refine lv_if_ne (tgt := 39) hx hb dX5_bestRow_33 (by decide) (fun c41 => ?_) (fun c41 => ?_)
        · replace hf := it_t hf c41
          refine lv_iconst (v := 0) hx hb dX5_bestRow_39 (by decide) ?_
          refine lv_istore (lv' := [(4, .int ((0 : Int32))), (0, .ref (g b)), (1, .int p0), (2, .int p1), (3, .int p2)]) hx hb dX5_bestRow_40 hl (by decide) rfl (fun ls hl => ?_)
          refine lv_aload_n hx hb dX5_bestRow_42 rfl (lv_at hl 1 rfl) ?_
          refine lv_iconst (v := 0) hx hb dX5_bestRow_43 (by decide) ?_
          refine lv_iload_n hx hb dX5_bestRow_44 rfl (lv_at hl 2 rfl) ?_
          refine lv_iload_n hx hb dX5_bestRow_45 rfl (lv_at hl 3 rfl) ?_
          obtain ⟨o42, ho42, hf⟩ := bd_i hf
          refine cl_i [0] [] [wM cT g b o42.2] hP (va_D_adr hD rfl) hA hS (va_runV (As := [.int ((0 : Int32)), .int p0, .int p1]) (rest := []) ⟨hx, hb, hml, hown, hts⟩ (c_X5_voidsWith l D cT g b fu u_mo ((0 : Int32)) p0 p1 o42 ho42 _) (cwV 3 hts gX5_bestRow_X5_voidsWith rfl rfl rfl (by decide +kernel) ⟨Nat.le_of_ble_eq_true rfl, Nat.le_of_ble_eq_true rfl⟩) ⟨PRE_blind, va_recv hK hP (ci := 5) (q0 := 0) rfl rfl, PRE_ok [0] (by decide) hP (va_D_adr hD rfl) hA hS hK hN hZ⟩ rfl rfl hl.1 rfl (lv_room (Nat.le_of_ble_eq_true rfl)) dX5_bestRow_46 ⟨Nat.le_of_ble_eq_true rfl, Nat.le_of_ble_eq_true rfl⟩) rfl 1 rfl (by decide) (by decide) (fun H locs hP hS => ?_)
          refine lv_istore (lv' := [(5, .int o42.1), (4, .int ((0 : Int32))), (0, .ref (g b)), (1, .int p0), (2, .int p1), (3, .int p2)]) hx hb dX5_bestRow_49 hl (by decide) rfl (fun ls hl => ?_)
          refine lv_iconst (v := 1) hx hb dX5_bestRow_51 (by decide) ?_
          refine lv_istore (lv' := [(6, .int ((1 : Int32))), (5, .int o42.1), (4, .int ((0 : Int32))), (0, .ref (g b)), (1, .int p0), (2, .int p1), (3, .int p2)]) hx hb dX5_bestRow_52 hl (by decide) rfl (fun ls hl => ?_)
          obtain ⟨z64, hz64, hf⟩ := bd_i hf
          have hL54 : ∀ (n : Nat) (v59 : Int32) (v60 : Int32) (v61 : Int32) (u62 : TM) (z63 : Int32 × Int32 × TM), lf_X5_bestRow_54 fu p0 p1 n v59 v60 v61 u62 = some z63 → ∀ (H : Heap) (locs : List Loc) (ls : Array Slot), va_P D vwCl (List.flatten [wM cT g b u62]) H → va_S A s.heap H locs → lv_has ls 8 [(0, .ref (g b)), (1, .int p0), (2, .int p1), (3, .int p2), (4, .int v59), (5, .int v60), (6, .int v61)] → (∀ (H : Heap) (locs : List Loc) (ls : Array Slot), va_P D vwCl (List.flatten [wM cT g b z63.2.2]) H → va_S A s.heap H locs → lv_has ls 8 [(3, .int p2), (4, .int z63.1), (5, .int z63.2.1)] → W p l e rm_X5_bestRow s m args below meth c H locs 0 0 Q (F0 m 108 ls [])) → W p l e rm_X5_bestRow s m args below meth c H locs 0 0 Q (F0 m 54 ls []) := by
            refine lq_4_ind (F := lb_X5_bestRow_54 fu p0 p1) (fun rec ih v59 v60 v61 u62 z63 hf H locs ls hP hS hl kx => ?_)
            unfold lb_X5_bestRow_54 at hf
            refine lv_iload hx hb dX5_bestRow_54 (lv_at hl 6 rfl) ?_
            refine lv_aload_n hx hb dX5_bestRow_56 rfl (lv_at hl 0 rfl) ?_
            refine va_get (ci := 5) (v := .ref (g (b + 1))) (C := RX5) (T := TX5) (N := 12) hx hb hts iw_X5_bestRow_X5 hown hK hP 0 rfl rfl 0 (by decide) (hts (.fieldLink RX5 7 "BallastTrackModel" "s" "[I") (List.mem_of_getElem? (i := 1) rfl)) (fun _ h9 => h9) rfl dX5_bestRow_57 ?_
            refine lv_iconst (v := 0) hx hb dX5_bestRow_60 (by decide) ?_
            obtain ⟨hi65, hf⟩ := ix_i hf
            refine va_iald hx hb hK hP 1 0 rfl rfl hi65 dX5_bestRow_61 ?_
            refine lv_topi (fun x66 ex66 => ?_)
            replace hf := nm_i hf ex66
            refine lv_iload_n hx hb dX5_bestRow_62 rfl (lv_at hl 1 rfl) ?_
            refine lv_isub hx hb dX5_bestRow_63 ?_
            refine lv_topi (fun x67 ex67 => ?_)
            replace hf := nm_i hf ex67
            refine lv_icmp_gt (tgt := 108) hx hb dX5_bestRow_64 (by decide) (fun c68 => ?_) (fun c68 => ?_)
            · replace hf := it_t hf c68
              obtain rfl := Option.some.inj hf
              exact kx _ _ _ hP hS (lv_sub hl [3, 4, 5] rfl)
            · replace hf := it_f hf c68
              refine lv_aload_n hx hb dX5_bestRow_67 rfl (lv_at hl 0 rfl) ?_
              refine lv_iload hx hb dX5_bestRow_68 (lv_at hl 6 rfl) ?_
              refine lv_iload_n hx hb dX5_bestRow_70 rfl (lv_at hl 1 rfl) ?_
              refine lv_iload_n hx hb dX5_bestRow_71 rfl (lv_at hl 2 rfl) ?_
              obtain ⟨o69, ho69, hf⟩ := bd_i hf
              refine cl_i [0] [] [wM cT g b o69.2] hP (va_D_adr hD rfl) hA hS (va_runV (As := [.int v61, .int p0, .int p1]) (rest := []) ⟨hx, hb, hml, hown, hts⟩ (c_X5_voidsWith l D cT g b fu u62 v61 p0 p1 o69 ho69 _) (cwV 3 hts gX5_bestRow_X5_voidsWith rfl rfl rfl (by decide +kernel) ⟨Nat.le_of_ble_eq_true rfl, Nat.le_of_ble_eq_true rfl⟩) ⟨PRE_blind, va_recv hK hP (ci := 5) (q0 := 0) rfl rfl, PRE_ok [0] (by decide) hP (va_D_adr hD rfl) hA hS hK hN hZ⟩ rfl rfl hl.1 rfl (lv_room (Nat.le_of_ble_eq_true rfl)) dX5_bestRow_72 ⟨Nat.le_of_ble_eq_true rfl, Nat.le_of_ble_eq_true rfl⟩) rfl 1 rfl (by decide) (by decide) (fun H locs hP hS => ?_)
              refine lv_istore (lv' := [(7, .int o69.1), (0, .ref (g b)), (1, .int p0), (2, .int p1), (3, .int p2), (4, .int v59), (5, .int v60), (6, .int v61)]) hx hb dX5_bestRow_75 hl (by decide) rfl (fun ls hl => ?_)
              refine lv_iload hx hb dX5_bestRow_77 (lv_at hl 0 rfl) ?_
              refine lv_iload hx hb dX5_bestRow_79 (lv_at hl 6 rfl) ?_
              obtain ⟨K91_74, eK91_74, hf⟩ := jn_i hf
              have hK91_74 : ∀ (x71 : Int32) (H : Heap) (locs : List Loc) (ls : Array Slot), K91_74 x71 = some z63 → va_P D vwCl (List.flatten [wM cT g b o69.2]) H → va_S A s.heap H locs → lv_has ls 8 [(0, .ref (g b)), (1, .int p0), (2, .int p1), (3, .int p2), (5, .int v60), (6, .int v61), (7, .int o69.1)] → W p l e rm_X5_bestRow s m args below meth c H locs 0 0 Q (F0 m 91 ls [.int x71]) := by
                intro x71 H locs ls hf hP hS hl
                rw [eK91_74] at hf
                refine lv_istore (lv' := [(4, .int x71), (0, .ref (g b)), (1, .int p0), (2, .int p1), (3, .int p2), (5, .int v60), (6, .int v61), (7, .int o69.1)]) hx hb dX5_bestRow_91 hl (by decide) rfl (fun ls hl => ?_)
                refine lv_iload hx hb dX5_bestRow_93 (lv_at hl 5 rfl) ?_
                refine lv_iload hx hb dX5_bestRow_95 (lv_at hl 7 rfl) ?_
                obtain ⟨o75, ho75, hf⟩ := bd_i hf
                refine cl_i [] [0] [wM cT g b o69.2] hP (va_D_adr hD rfl) hA hS (va_runS (As := [.int v60, .int o69.1]) (rest := []) ⟨hx, hb, hml, hown, hts⟩ (c_X5_lesser l D cT g  fu  v60 o69.1 o75 ho75 _) (va_cwS 2 hts gX5_bestRow_X5_lesser rfl rfl rfl (by decide +kernel) ⟨Nat.le_of_ble_eq_true rfl, Nat.le_of_ble_eq_true rfl⟩) ⟨PRE_blind, PRE_ok [] (by decide) hP (va_D_adr hD rfl) hA hS hK hN hZ⟩ rfl rfl hl.1 rfl (lv_room (Nat.le_of_ble_eq_true rfl)) dX5_bestRow_97 ⟨Nat.le_of_ble_eq_true rfl, Nat.le_of_ble_eq_true rfl⟩) rfl 1 rfl (by decide) (by decide) (fun H locs hP hS => ?_)
                refine lv_istore (lv' := [(5, .int o75), (4, .int x71), (0, .ref (g b)), (1, .int p0), (2, .int p1), (3, .int p2), (6, .int v61), (7, .int o69.1)]) hx hb dX5_bestRow_100 hl (by decide) rfl (fun ls hl => ?_)
                obtain ⟨x76, ex76⟩ : ∃ z : Int32, z = v61 + (1 : Int32) := ⟨_, rfl⟩
                replace hf := nm_i hf ex76
                refine lv_iinc (v := x76) (lv' := [(6, .int x76), (5, .int o75), (4, .int x71), (0, .ref (g b)), (1, .int p0), (2, .int p1), (3, .int p2), (7, .int o69.1)]) hx hb dX5_bestRow_102 hl (k := 6) rfl (by rw [ex76]; rfl) (by decide) rfl (fun ls hl => ?_)
                refine lv_goto (tgt := 54) hx hb dX5_bestRow_105 (by decide) ?_
                exact ih _ _ _ _ _ hf _ _ _ hP hS (lv_sub hl [3, 4, 5, 6, 2, 1, 0] rfl) kx
              clear eK91_74
              refine lv_icmp_ge (tgt := 89) hx hb dX5_bestRow_81 (by decide) (fun c77 => ?_) (fun c77 => ?_)
              · replace hf := it_t hf c77
                refine lv_iload hx hb dX5_bestRow_89 (lv_at hl 5 rfl) ?_
                exact hK91_74 _ _ _ _ hf hP hS (lv_sub hl [1, 2, 3, 4, 6, 7, 0] rfl)
              · replace hf := it_f hf c77
                refine lv_iload hx hb dX5_bestRow_84 (lv_at hl 7 rfl) ?_
                refine lv_goto (tgt := 91) hx hb dX5_bestRow_86 (by decide) ?_
                exact hK91_74 _ _ _ _ hf hP hS (lv_sub hl [1, 2, 3, 4, 6, 7, 0] rfl)
          refine hL54 fu _ _ _ _ _ hz64 _ _ _ hP hS (lv_sub hl [3, 4, 5, 6, 2, 1, 0] rfl) (fun H locs ls hP hS hl => ?_)
          refine lv_iload_n hx hb dX5_bestRow_108 rfl (lv_at hl 0 rfl) ?_
          refine lv_if_ne (tgt := 117) hx hb dX5_bestRow_109 (by decide) (fun c78 => ?_) (fun c78 => ?_)
          · replace hf := it_t hf c78
            refine lv_iload hx hb dX5_bestRow_117 (lv_at hl 2 rfl) ?_
            obtain rfl := Option.some.inj hf
            subst hQ
            exact en_i hx hb hr hP hS hlocks dX5_bestRow_119
          · replace hf := it_f hf (not_not_intro c78)
            refine lv_iload hx hb dX5_bestRow_112 (lv_at hl 1 rfl) ?_
            refine lv_goto (tgt := 119) hx hb dX5_bestRow_114 (by decide) ?_
            obtain rfl := Option.some.inj hf
            subst hQ
            exact en_i hx hb hr hP hS hlocks dX5_bestRow_119
        · replace hf := it_f hf (not_not_intro c41)
          refine lv_ldc (v := -100001) hx hb hown (hts (.constant RX5 68 (-100001)) (List.mem_of_getElem? (i := 2) rfl)) dX5_bestRow_36 ?_
          obtain rfl := Option.some.inj hf
          subst hQ
          exact en_i hx hb hr hP hS hlocks dX5_bestRow_38
theorem iw_X5_minutesLeft_X5 : ∀ w ∈ u_ws RX5 TX5 12, w ∈ wsX5_minutesLeft := by decide +kernel
def f_X5_minutesLeft (fu : Nat) (u_mo : TM)  : Option (Int32 × TM) :=
bd (f_X5_putAside fu u_mo ) fun (o10 : TM) =>
ix ((12 : Int32)) 281 <|
nm ((M_ss o10) ((12 : Int32)).toNatClampNeg) fun (x12 : Int32) =>
bd (f_X5_works fu o10 ((1000000 : Int32))) fun (o13 : Int32 × TM) =>
ix ((12 : Int32)) 281 <|
nm ((M_ss o13.2) ((12 : Int32)).toNatClampNeg) fun (x15 : Int32) =>
nm (x15 - x12) fun (x16 : Int32) =>
bd (f_X5_putBack fu o13.2 ) fun (o17 : TM) =>
if ¬ o13.1 = 0 then (
some (x16, o17)
)
else (
some ((0 : Int32), o17)
)

abbrev rm_X5_minutesLeft : Room := { frames := 3, cells := 0, slots := 0, locals := 70 }
set_option maxHeartbeats 4000000 in
set_option maxRecDepth 100000 in
theorem c_X5_minutesLeft (l : Launch) (D : va_G) (cT : Nat → ClassId) (g : Nat → Nat) (b : Nat) (fu : Nat) (u_mo : TM)  (o : Int32 × TM) (hf : f_X5_minutesLeft fu u_mo  = some o) (sz : Nat) : Met l yX5_minutesLeft wsX5_minutesLeft rm_X5_minutesLeft (va_Pc [.ref (g b)] (PRE D cT sz (List.flatten [wM cT g b u_mo]))) (QI D o.1 (List.flatten [wM cT g b o.2]) (va_A (List.flatten [wM cT g b u_mo]) sz)) 0 0 (va_A (List.flatten [wM cT g b u_mo]) sz) := by
  refine Met.ofW (cc := cX5_minutesLeft) (maxL := 4) (ret := (some .int)) (by decide) rfl ?_
  intro p e s m args below meth c s₁ B0 hml hv
  obtain ⟨hav, hsz, hP, hK, hD, hN, hZ⟩ := hv
  have hx := B0.exec
  have hb := B0.bytes
  have hr := B0.returns
  have hts := atoms_spec (ws := wsX5_minutesLeft) B0.pre
  have hown : s.vm.findClass RX5 = some m.cls := findClass_of_methodNamed B0.named
  have hlocks := B0.notSynchronized
  subst hsz
  have hD := hD.self (sz := s.heap.size)
  have hA : ∀ q : Nat, s.heap.size ≤ q → va_A (List.flatten [wM cT g b u_mo]) s.heap.size q := fun q h => Or.inr h
  generalize va_A (List.flatten [wM cT g b u_mo]) s.heap.size = A at hD hZ hA ⊢
  have hS : va_S A s.heap s.heap [] := va_S.rf
  have hl := lv_entry ([.ref (g b)]) (n := 4) (Nat.le_of_ble_eq_true rfl)
  rw [hav]
  rw [lg_entry_eq]
  generalize (lg_sl ([.ref (g b)]) ++ List.replicate (4 - (lg_sl ([.ref (g b)])).length) Slot.unset).toArray = ls at hl ⊢
  have hl : lv_has ls 4 [(0, .ref (g b))] := hl
  rw [← hav]
  generalize hQ : MQ below _ _ _ _ _ _ = Q
  show W p l e rm_X5_minutesLeft s m args below meth c s.heap [] 0 0 Q (F0 m 0 ls [])
  unfold f_X5_minutesLeft at hf
  refine lv_aload_n hx hb dX5_minutesLeft_0 rfl (lv_at hl 0 rfl) ?_
  obtain ⟨o10, ho10, hf⟩ := bd_i hf
  refine cl_v [0] [] [wM cT g b o10] hP (va_D_adr hD rfl) hA hS (va_runV (As := []) (rest := []) ⟨hx, hb, hml, hown, hts⟩ (c_X5_putAside l D cT g b fu u_mo  o10 ho10 _) (cwV 0 hts gX5_minutesLeft_X5_putAside rfl rfl rfl (by decide +kernel) ⟨Nat.le_of_ble_eq_true rfl, Nat.le_of_ble_eq_true rfl⟩) ⟨PRE_blind, va_recv hK hP (ci := 5) (q0 := 0) rfl rfl, PRE_ok [0] (by decide) hP (va_D_adr hD rfl) hA hS hK hN hZ⟩ rfl rfl hl.1 rfl (lv_room (Nat.le_of_ble_eq_true rfl)) dX5_minutesLeft_1 ⟨Nat.le_of_ble_eq_true rfl, Nat.le_of_ble_eq_true rfl⟩) rfl 1 rfl (by decide) (by decide) (fun H locs hP hS => ?_)
  refine lv_aload_n hx hb dX5_minutesLeft_4 rfl (lv_at hl 0 rfl) ?_
  refine va_get (ci := 5) (v := .ref (g (b + 1))) (C := RX5) (T := TX5) (N := 12) hx hb hts iw_X5_minutesLeft_X5 hown hK hP 0 rfl rfl 0 (by decide) (hts (.fieldLink RX5 7 "BallastTrackModel" "s" "[I") (List.mem_of_getElem? (i := 1) rfl)) (fun _ h9 => h9) rfl dX5_minutesLeft_5 ?_
  refine lv_bipush (v := 12) hx hb dX5_minutesLeft_8 (by decide) ?_
  obtain ⟨hi11, hf⟩ := ix_i hf
  refine va_iald hx hb hK hP 1 0 rfl rfl hi11 dX5_minutesLeft_10 ?_
  refine lv_topi (fun x12 ex12 => ?_)
  replace hf := nm_i hf ex12
  refine lv_istore_n (lv' := [(1, .int x12), (0, .ref (g b))]) hx hb dX5_minutesLeft_11 rfl hl (by decide) rfl (fun ls hl => ?_)
  refine lv_aload_n hx hb dX5_minutesLeft_12 rfl (lv_at hl 1 rfl) ?_
  refine lv_ldc (v := 1000000) hx hb hown (hts (.constant RX5 170 (1000000)) (List.mem_of_getElem? (i := 2) rfl)) dX5_minutesLeft_13 ?_
  obtain ⟨o13, ho13, hf⟩ := bd_i hf
  refine cl_i [0] [] [wM cT g b o13.2] hP (va_D_adr hD rfl) hA hS (va_runV (As := [.int ((1000000 : Int32))]) (rest := []) ⟨hx, hb, hml, hown, hts⟩ (c_X5_works l D cT g b fu o10 ((1000000 : Int32)) o13 ho13 _) (cwV 1 hts gX5_minutesLeft_X5_works rfl rfl rfl (by decide +kernel) ⟨Nat.le_of_ble_eq_true rfl, Nat.le_of_ble_eq_true rfl⟩) ⟨PRE_blind, va_recv hK hP (ci := 5) (q0 := 0) rfl rfl, PRE_ok [0] (by decide) hP (va_D_adr hD rfl) hA hS hK hN hZ⟩ rfl rfl hl.1 rfl (lv_room (Nat.le_of_ble_eq_true rfl)) dX5_minutesLeft_15 ⟨Nat.le_of_ble_eq_true rfl, Nat.le_of_ble_eq_true rfl⟩) rfl 1 rfl (by decide) (by decide) (fun H locs hP hS => ?_)
  refine lv_istore_n (lv' := [(2, .int o13.1), (1, .int x12), (0, .ref (g b))]) hx hb dX5_minutesLeft_18 rfl hl (by decide) rfl (fun ls hl => ?_)
  refine lv_aload_n hx hb dX5_minutesLeft_19 rfl (lv_at hl 2 rfl) ?_
  refine va_get (ci := 5) (v := .ref (g (b + 1))) (C := RX5) (T := TX5) (N := 12) hx hb hts iw_X5_minutesLeft_X5 hown hK hP 0 rfl rfl 0 (by decide) (hts (.fieldLink RX5 7 "BallastTrackModel" "s" "[I") (List.mem_of_getElem? (i := 1) rfl)) (fun _ h9 => h9) rfl dX5_minutesLeft_20 ?_
  refine lv_bipush (v := 12) hx hb dX5_minutesLeft_23 (by decide) ?_
  obtain ⟨hi14, hf⟩ := ix_i hf
  refine va_iald hx hb hK hP 1 0 rfl rfl hi14 dX5_minutesLeft_25 ?_
  refine lv_topi (fun x15 ex15 => ?_)
  replace hf := nm_i hf ex15
  refine lv_iload_n hx hb dX5_minutesLeft_26 rfl (lv_at hl 1 rfl) ?_
  refine lv_isub hx hb dX5_minutesLeft_27 ?_
  refine lv_topi (fun x16 ex16 => ?_)
  replace hf := nm_i hf ex16
  refine lv_istore_n (lv' := [(3, .int x16), (2, .int o13.1), (1, .int x12), (0, .ref (g b))]) hx hb dX5_minutesLeft_28 rfl hl (by decide) rfl (fun ls hl => ?_)
  refine lv_aload_n hx hb dX5_minutesLeft_29 rfl (lv_at hl 3 rfl) ?_
  obtain ⟨o17, ho17, hf⟩ := bd_i hf
  refine cl_v [0] [] [wM cT g b o17] hP (va_D_adr hD rfl) hA hS (va_runV (As := []) (rest := []) ⟨hx, hb, hml, hown, hts⟩ (c_X5_putBack l D cT g b fu o13.2  o17 ho17 _) (cwV 0 hts gX5_minutesLeft_X5_putBack rfl rfl rfl (by decide +kernel) ⟨Nat.le_of_ble_eq_true rfl, Nat.le_of_ble_eq_true rfl⟩) ⟨PRE_blind, va_recv hK hP (ci := 5) (q0 := 0) rfl rfl, PRE_ok [0] (by decide) hP (va_D_adr hD rfl) hA hS hK hN hZ⟩ rfl rfl hl.1 rfl (lv_room (Nat.le_of_ble_eq_true rfl)) dX5_minutesLeft_30 ⟨Nat.le_of_ble_eq_true rfl, Nat.le_of_ble_eq_true rfl⟩) rfl 1 rfl (by decide) (by decide) (fun H locs hP hS => ?_)
  refine lv_iload_n hx hb dX5_minutesLeft_33 rfl (lv_at hl 1 rfl) ?_
  refine lv_if_ne (tgt := 41) hx hb dX5_minutesLeft_34 (by decide) (fun c18 => ?_) (fun c18 => ?_)
  · replace hf := it_t hf c18
    refine lv_iload_n hx hb dX5_minutesLeft_41 rfl (lv_at hl 0 rfl) ?_
    obtain rfl := Option.some.inj hf
    subst hQ
    exact en_i hx hb hr hP hS hlocks dX5_minutesLeft_42
  · replace hf := it_f hf (not_not_intro c18)
    refine lv_iconst (v := 0) hx hb dX5_minutesLeft_37 (by decide) ?_
    refine lv_goto (tgt := 42) hx hb dX5_minutesLeft_38 (by decide) ?_
    obtain rfl := Option.some.inj hf
    subst hQ
    exact en_i hx hb hr hP hS hlocks dX5_minutesLeft_42
