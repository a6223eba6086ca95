theorem iw_X5_rail_X5 : ∀ w ∈ u_ws RX5 TX5 12, w ∈ wsX5_rail := by decide +kernel
def lb_X5_rail_38 (fu : Nat)  (rec : Int32 → TM → Option (TM)) (v104 : Int32) (u105 : TM) : Option (TM) :=
nm (M_ss u105 0) fun (x108 : Int32) =>
if x108 ≤ v104 then (
some (u105)
)
else (
jn (fun (x121 : Int32) =>
ix v104 60 <|
nm (M_ra_ u105 (upd (M_ra u105) v104.toNatClampNeg x121)) fun (u127 : TM) =>
nm (v104 + (1 : Int32)) fun (x128 : Int32) =>
rec x128 u127
) fun K94_125 =>
if ¬ v104 = 0 then (
nm ((41 : Int32) + v104) fun (x130 : Int32) =>
ix x130 281 <|
nm ((M_ss u105) x130.toNatClampNeg) fun (x132 : Int32) =>
nm (v104 - (1 : Int32)) fun (x133 : Int32) =>
ix x133 60 <|
nm ((M_ra u105) x133.toNatClampNeg) fun (x135 : Int32) =>
nm (M_ss u105 1) fun (x136 : Int32) =>
nm (x135 - x136) fun (x137 : Int32) =>
bd (f_X5_greater fu  x132 x137) fun (o138 : Int32) =>
K94_125 o138
)
else (
nm (M_ss u105 41) fun (x139 : Int32) =>
K94_125 x139
)
)

def lf_X5_rail_38 (fu : Nat)  : Nat → Int32 → TM → Option (TM) := lq_2 (lb_X5_rail_38 fu )
def lb_X5_rail_110 (fu : Nat)  (rec : Int32 → TM → Option (TM)) (v156 : Int32) (u157 : TM) : Option (TM) :=
if v156 < 0 then (
some (u157)
)
else (
ix v156 60 <|
nm ((M_ra u157) v156.toNatClampNeg) fun (x162 : Int32) =>
nm (v156 + (1 : Int32)) fun (x163 : Int32) =>
ix x163 60 <|
nm ((M_ra u157) x163.toNatClampNeg) fun (x165 : Int32) =>
nm (M_ss u157 1) fun (x166 : Int32) =>
nm (x165 - x166) fun (x167 : Int32) =>
bd (f_X5_greater fu  x162 x167) fun (o168 : Int32) =>
ix v156 60 <|
nm (M_ra_ u157 (upd (M_ra u157) v156.toNatClampNeg o168)) fun (u170 : TM) =>
nm (v156 + (-1 : Int32)) fun (x171 : Int32) =>
rec x171 u170
)

def lf_X5_rail_110 (fu : Nat)  : Nat → Int32 → TM → Option (TM) := lq_2 (lb_X5_rail_110 fu )
def f_X5_rail (fu : Nat) (u_mo : TM) (p0 : Int32) (p1 : Int32) : Option (Int32 × TM) :=
bd (f_X5_isSleeper fu u_mo p0) fun (o66 : Bool) =>
if bI o66 = 0 then (
some ((-100001 : Int32), u_mo)
)
else (
bd (f_X5_in fu  p1 ((0 : Int32)) ((1 : Int32))) fun (o68 : Bool) =>
if ¬ bI o68 = 0 then (
if ¬ p1 = (1 : Int32) then (
bd (lf_X5_rail_38 fu  fu ((0 : Int32)) u_mo) fun (z107 : TM) =>
nm (M_ss z107 0) fun (x140 : Int32) =>
nm (x140 - (2 : Int32)) fun (x141 : Int32) =>
bd (lf_X5_rail_110 fu  fu x141 z107) fun (z159 : TM) =>
ix p0 60 <|
nm ((M_ra z159) p0.toNatClampNeg) fun (x173 : Int32) =>
some (x173, z159)
)
else (
bd (f_X5_laysRail fu u_mo ) fun (o174 : TM) =>
ix p0 60 <|
nm ((M_ra o174) p0.toNatClampNeg) fun (x176 : Int32) =>
some (x176, o174)
)
)
else (
some ((-100001 : Int32), u_mo)
)
)

abbrev rm_X5_rail : Room := { frames := 2, cells := 0, slots := 0, locals := 43 }
set_option maxHeartbeats 4000000 in
set_option maxRecDepth 100000 in
theorem c_X5_rail (l : Launch) (D : va_G) (cT : Nat → ClassId) (g : Nat → Nat) (b : Nat) (fu : Nat) (u_mo : TM) (p0 : Int32) (p1 : Int32) (o : Int32 × TM) (hf : f_X5_rail fu u_mo p0 p1 = some o) (sz : Nat) : Met l yX5_rail wsX5_rail rm_X5_rail (va_Pc [.ref (g b), .int p0, .int p1] (PRE D cT sz (List.flatten [wM cT g b u_mo]))) (QI D o.1 (List.flatten [wM cT g b o.2]) (va_A (List.flatten [wM cT g b u_mo]) sz)) 0 0 (va_A (List.flatten [wM cT g b u_mo]) sz) := by
  refine Met.ofW (cc := cX5_rail) (maxL := 4) (ret := (some .int)) (by decide) rfl ?_
  intro p e s m args below meth c s₁ B0 hml hv
  obtain ⟨hav, hsz, hP, hK, hD, hN, hZ⟩ := hv
  have hx := B0.exec
  have hb := B0.bytes
  have hr := B0.returns
  have hts := atoms_spec (ws := wsX5_rail) B0.pre
  have hown : s.vm.findClass RX5 = some m.cls := findClass_of_methodNamed B0.named
  have hlocks := B0.notSynchronized
  subst hsz
  have hD := hD.self (sz := s.heap.size)
  have hA : ∀ q : Nat, s.heap.size ≤ q → va_A (List.flatten [wM cT g b u_mo]) s.heap.size q := fun q h => Or.inr h
  generalize va_A (List.flatten [wM cT g b u_mo]) s.heap.size = A at hD hZ hA ⊢
  have hS : va_S A s.heap s.heap [] := va_S.rf
  have hl := lv_entry ([.ref (g b), .int p0, .int p1]) (n := 4) (Nat.le_of_ble_eq_true rfl)
  rw [hav]
  rw [lg_entry_eq]
  generalize (lg_sl ([.ref (g b), .int p0, .int p1]) ++ List.replicate (4 - (lg_sl ([.ref (g b), .int p0, .int p1])).length) Slot.unset).toArray = ls at hl ⊢
  have hl : lv_has ls 4 [(0, .ref (g b)), (1, .int p0), (2, .int p1)] := hl
  rw [← hav]
  generalize hQ : MQ below _ _ _ _ _ _ = Q
  show W p l e rm_X5_rail s m args below meth c s.heap [] 0 0 Q (F0 m 0 ls [])
  unfold f_X5_rail at hf
  refine lv_aload_n hx hb dX5_rail_0 rfl (lv_at hl 0 rfl) ?_
  refine lv_iload_n hx hb dX5_rail_1 rfl (lv_at hl 1 rfl) ?_
  obtain ⟨o66, ho66, hf⟩ := bd_i hf
  refine cl_i [0] [] [wM cT g b u_mo] hP (va_D_adr hD rfl) hA hS (va_runV (As := [.int p0]) (rest := []) ⟨hx, hb, hml, hown, hts⟩ (c_X5_isSleeper l D cT g b fu u_mo p0 o66 ho66 _) (cwV 1 hts gX5_rail_X5_isSleeper rfl rfl rfl (by decide +kernel) ⟨Nat.le_of_ble_eq_true rfl, Nat.le_of_ble_eq_true rfl⟩) ⟨PRE_blind, va_recv hK hP (ci := 5) (q0 := 0) rfl rfl, PRE_ok [0] (by decide) hP (va_D_adr hD rfl) hA hS hK hN hZ⟩ rfl rfl hl.1 rfl (lv_room (Nat.le_of_ble_eq_true rfl)) dX5_rail_2 ⟨Nat.le_of_ble_eq_true rfl, Nat.le_of_ble_eq_true rfl⟩) rfl 1 rfl (by decide) (by decide) (fun H locs hP hS => ?_)
  refine lv_if_eq (tgt := 17) hx hb dX5_rail_5 (by decide) (fun c67 => ?_) (fun c67 => ?_)
  · replace hf := it_t hf c67
    refine lv_ldc (v := -100001) hx hb hown (hts (.constant RX5 68 (-100001)) (List.mem_of_getElem? (i := 1) rfl)) dX5_rail_17 ?_
    obtain rfl := Option.some.inj hf
    subst hQ
    exact en_i hx hb hr hP hS hlocks dX5_rail_19
  · replace hf := it_f hf c67
    refine lv_iload_n hx hb dX5_rail_8 rfl (lv_at hl 2 rfl) ?_
    refine lv_iconst (v := 0) hx hb dX5_rail_9 (by decide) ?_
    refine lv_iconst (v := 1) hx hb dX5_rail_10 (by decide) ?_
    obtain ⟨o68, ho68, hf⟩ := bd_i hf
    refine cl_i [] [0] [wM cT g b u_mo] hP (va_D_adr hD rfl) hA hS (va_runS (As := [.int p1, .int ((0 : Int32)), .int ((1 : Int32))]) (rest := []) ⟨hx, hb, hml, hown, hts⟩ (c_X5_in l D cT g  fu  p1 ((0 : Int32)) ((1 : Int32)) o68 ho68 _) (va_cwS 3 hts gX5_rail_X5_in rfl rfl rfl (by decide +kernel) ⟨Nat.le_of_ble_eq_true rfl, Nat.le_of_ble_eq_true rfl⟩) ⟨PRE_blind, PRE_ok [] (by decide) hP (va_D_adr hD rfl) hA hS hK hN hZ⟩ rfl rfl hl.1 rfl (lv_room (Nat.le_of_ble_eq_true rfl)) dX5_rail_11 ⟨Nat.le_of_ble_eq_true rfl, Nat.le_of_ble_eq_true rfl⟩) rfl 1 rfl (by decide) (by decide) (fun H locs hP hS => ?_)
    refine lv_if_ne (tgt := 20) hx hb dX5_rail_14 (by decide) (fun c69 => ?_) (fun c69 => ?_)
    · replace hf := it_t hf c69
      refine lv_iload_n hx hb dX5_rail_20 rfl (lv_at hl 2 rfl) ?_
      refine lv_iconst (v := 1) hx hb dX5_rail_21 (by decide) ?_
      refine lv_icmp_ne (tgt := 36) hx hb dX5_rail_22 (by decide) (fun c70 => ?_) (fun c70 => ?_)
      · replace hf := it_t hf c70
        refine lv_iconst (v := 0) hx hb dX5_rail_36 (by decide) ?_
        refine lv_istore_n (lv' := [(3, .int ((0 : Int32))), (0, .ref (g b)), (1, .int p0), (2, .int p1)]) hx hb dX5_rail_37 rfl hl (by decide) rfl (fun ls hl => ?_)
        obtain ⟨z107, hz107, hf⟩ := bd_i hf
        have hL38 : ∀ (n : Nat) (v104 : Int32) (u105 : TM) (z106 : TM), lf_X5_rail_38 fu  n v104 u105 = some z106 → ∀ (H : Heap) (locs : List Loc) (ls : Array Slot), va_P D vwCl (List.flatten [wM cT g b u105]) H → va_S A s.heap H locs → lv_has ls 4 [(0, .ref (g b)), (1, .int p0), (3, .int v104)] → (∀ (H : Heap) (locs : List Loc) (ls : Array Slot), va_P D vwCl (List.flatten [wM cT g b z106]) H → va_S A s.heap H locs → lv_has ls 4 [(0, .ref (g b)), (1, .int p0)] → W p l e rm_X5_rail s m args below meth c H locs 0 0 Q (F0 m 101 ls [])) → W p l e rm_X5_rail s m args below meth c H locs 0 0 Q (F0 m 38 ls []) := by
          refine lq_2_ind (F := lb_X5_rail_38 fu ) (fun rec ih v104 u105 z106 hf H locs ls hP hS hl kx => ?_)
          unfold lb_X5_rail_38 at hf
          refine lv_iload_n hx hb dX5_rail_38 rfl (lv_at hl 2 rfl) ?_
          refine lv_aload_n hx hb dX5_rail_39 rfl (lv_at hl 0 rfl) ?_
          refine va_get (ci := 5) (v := .ref (g (b + 1))) (C := RX5) (T := TX5) (N := 12) hx hb hts iw_X5_rail_X5 hown hK hP 0 rfl rfl 0 (by decide) (hts (.fieldLink RX5 7 "BallastTrackModel" "s" "[I") (List.mem_of_getElem? (i := 3) rfl)) (fun _ h9 => h9) rfl dX5_rail_40 ?_
          refine lv_iconst (v := 0) hx hb dX5_rail_43 (by decide) ?_
          refine va_iald hx hb hK hP 1 0 rfl rfl (by unfold vp_in; decide) dX5_rail_44 ?_
          refine lv_topi (fun x108 ex108 => ?_)
          replace hf := nm_i hf ex108
          refine lv_icmp_ge (tgt := 101) hx hb dX5_rail_45 (by decide) (fun c109 => ?_) (fun c109 => ?_)
          · replace hf := it_t hf c109
            obtain rfl := Option.some.inj hf
            exact kx _ _ _ hP hS (lv_sub hl [0, 1] rfl)
          · replace hf := it_f hf c109
            refine lv_aload_n hx hb dX5_rail_48 rfl (lv_at hl 0 rfl) ?_
            refine va_get (ci := 5) (v := .ref (g (b + 6))) (C := RX5) (T := TX5) (N := 12) hx hb hts iw_X5_rail_X5 hown hK hP 0 rfl rfl 8 (by decide) (hts (.fieldLink RX5 26 "BallastTrackModel" "rail" "[I") (List.mem_of_getElem? (i := 2) rfl)) (fun _ h9 => h9) rfl dX5_rail_49 ?_
            refine lv_iload_n hx hb dX5_rail_52 rfl (lv_at hl 2 rfl) ?_
            refine lv_iload_n hx hb dX5_rail_53 rfl (lv_at hl 2 rfl) ?_
            obtain ⟨K94_125, eK94_125, hf⟩ := jn_i hf
            have hK94_125 : ∀ (x121 : Int32) (H : Heap) (locs : List Loc) (ls : Array Slot), K94_125 x121 = some z106 → va_P D vwCl (List.flatten [wM cT g b u105]) H → va_S A s.heap H locs → lv_has ls 4 [(0, .ref (g b)), (1, .int p0), (3, .int v104)] → W p l e rm_X5_rail s m args below meth c H locs 0 0 Q (F0 m 94 ls [.int x121, .int v104, .ref (g (b + 6))]) := by
              intro x121 H locs ls hf hP hS hl
              rw [eK94_125] at hf
              obtain ⟨hi126, hf⟩ := ix_i hf
              refine va_iast hx hb hK hP (va_D_adr hD rfl) hS 6 0 rfl rfl hi126 dX5_rail_94 (fun H locs hP _ hS => ?_)
              obtain ⟨u127, eu127⟩ : ∃ z : TM, z = M_ra_ u105 (upd (M_ra u105) v104.toNatClampNeg x121) := ⟨_, rfl⟩
              replace hf := nm_i hf eu127
              have hP : va_P D vwCl (List.flatten [wM cT g b u127]) H := by rw [eu127]; exact hP
              obtain ⟨x128, ex128⟩ : ∃ z : Int32, z = v104 + (1 : Int32) := ⟨_, rfl⟩
              replace hf := nm_i hf ex128
              refine lv_iinc (v := x128) (lv' := [(3, .int x128), (0, .ref (g b)), (1, .int p0)]) hx hb dX5_rail_95 hl (k := 2) rfl (by rw [ex128]; rfl) (by decide) rfl (fun ls hl => ?_)
              refine lv_goto (tgt := 38) hx hb dX5_rail_98 (by decide) ?_
              exact ih _ _ _ hf _ _ _ hP hS (lv_sub hl [1, 2, 0] rfl) kx
            clear eK94_125
            refine lv_if_ne (tgt := 67) hx hb dX5_rail_54 (by decide) (fun c129 => ?_) (fun c129 => ?_)
            · replace hf := it_t hf c129
              refine lv_aload_n hx hb dX5_rail_67 rfl (lv_at hl 0 rfl) ?_
              refine va_get (ci := 5) (v := .ref (g (b + 1))) (C := RX5) (T := TX5) (N := 12) hx hb hts iw_X5_rail_X5 hown hK hP 0 rfl rfl 0 (by decide) (hts (.fieldLink RX5 7 "BallastTrackModel" "s" "[I") (List.mem_of_getElem? (i := 3) rfl)) (fun _ h9 => h9) rfl dX5_rail_68 ?_
              refine lv_bipush (v := 41) hx hb dX5_rail_71 (by decide) ?_
              refine lv_iload_n hx hb dX5_rail_73 rfl (lv_at hl 2 rfl) ?_
              refine lv_iadd hx hb dX5_rail_74 ?_
              refine lv_topi (fun x130 ex130 => ?_)
              replace hf := nm_i hf ex130
              obtain ⟨hi131, hf⟩ := ix_i hf
              refine va_iald hx hb hK hP 1 0 rfl rfl hi131 dX5_rail_75 ?_
              refine lv_topi (fun x132 ex132 => ?_)
              replace hf := nm_i hf ex132
              refine lv_aload_n hx hb dX5_rail_76 rfl (lv_at hl 0 rfl) ?_
              refine va_get (ci := 5) (v := .ref (g (b + 6))) (C := RX5) (T := TX5) (N := 12) hx hb hts iw_X5_rail_X5 hown hK hP 0 rfl rfl 8 (by decide) (hts (.fieldLink RX5 26 "BallastTrackModel" "rail" "[I") (List.mem_of_getElem? (i := 2) rfl)) (fun _ h9 => h9) rfl dX5_rail_77 ?_
              refine lv_iload_n hx hb dX5_rail_80 rfl (lv_at hl 2 rfl) ?_
              refine lv_iconst (v := 1) hx hb dX5_rail_81 (by decide) ?_
              refine lv_isub hx hb dX5_rail_82 ?_
              refine lv_topi (fun x133 ex133 => ?_)
              replace hf := nm_i hf ex133
              obtain ⟨hi134, hf⟩ := ix_i hf
              refine va_iald hx hb hK hP 6 0 rfl rfl hi134 dX5_rail_83 ?_
              refine lv_topi (fun x135 ex135 => ?_)
              replace hf := nm_i hf ex135
              refine lv_aload_n hx hb dX5_rail_84 rfl (lv_at hl 0 rfl) ?_
              refine va_get (ci := 5) (v := .ref (g (b + 1))) (C := RX5) (T := TX5) (N := 12) hx hb hts iw_X5_rail_X5 hown hK hP 0 rfl rfl 0 (by decide) (hts (.fieldLink RX5 7 "BallastTrackModel" "s" "[I") (List.mem_of_getElem? (i := 3) rfl)) (fun _ h9 => h9) rfl dX5_rail_85 ?_
              refine lv_iconst (v := 1) hx hb dX5_rail_88 (by decide) ?_
              refine va_iald hx hb hK hP 1 0 rfl rfl (by unfold vp_in; decide) dX5_rail_89 ?_
              refine lv_topi (fun x136 ex136 => ?_)
              replace hf := nm_i hf ex136
              refine lv_isub hx hb dX5_rail_90 ?_
              refine lv_topi (fun x137 ex137 => ?_)
              replace hf := nm_i hf ex137
              obtain ⟨o138, ho138, hf⟩ := bd_i hf
              refine cl_i [] [0] [wM cT g b u105] hP (va_D_adr hD rfl) hA hS (va_runS (As := [.int x132, .int x137]) (rest := [.int v104, .ref (g (b + 6))]) ⟨hx, hb, hml, hown, hts⟩ (c_X5_greater l D cT g  fu  x132 x137 o138 ho138 _) (va_cwS 2 hts gX5_rail_X5_greater rfl rfl rfl (by decide +kernel) ⟨Nat.le_of_ble_eq_true rfl, Nat.le_of_ble_eq_true rfl⟩) ⟨PRE_blind, PRE_ok [] (by decide) hP (va_D_adr hD rfl) hA hS hK hN hZ⟩ rfl rfl hl.1 rfl (lv_room (Nat.le_of_ble_eq_true rfl)) dX5_rail_91 ⟨Nat.le_of_ble_eq_true rfl, Nat.le_of_ble_eq_true rfl⟩) rfl 1 rfl (by decide) (by decide) (fun H locs hP hS => ?_)
              exact hK94_125 _ _ _ _ hf hP hS (lv_sub hl [0, 1, 2] rfl)
            · replace hf := it_f hf (not_not_intro c129)
              refine lv_aload_n hx hb dX5_rail_57 rfl (lv_at hl 0 rfl) ?_
              refine va_get (ci := 5) (v := .ref (g (b + 1))) (C := RX5) (T := TX5) (N := 12) hx hb hts iw_X5_rail_X5 hown hK hP 0 rfl rfl 0 (by decide) (hts (.fieldLink RX5 7 "BallastTrackModel" "s" "[I") (List.mem_of_getElem? (i := 3) rfl)) (fun _ h9 => h9) rfl dX5_rail_58 ?_
              refine lv_bipush (v := 41) hx hb dX5_rail_61 (by decide) ?_
              refine va_iald hx hb hK hP 1 0 rfl rfl (by unfold vp_in; decide) dX5_rail_63 ?_
              refine lv_topi (fun x139 ex139 => ?_)
              replace hf := nm_i hf ex139
              refine lv_goto (tgt := 94) hx hb dX5_rail_64 (by decide) ?_
              exact hK94_125 _ _ _ _ hf hP hS (lv_sub hl [0, 1, 2] rfl)
        refine hL38 fu _ _ _ hz107 _ _ _ hP hS (lv_sub hl [1, 2, 0] rfl) (fun H locs ls hP hS hl => ?_)
        refine lv_aload_n hx hb dX5_rail_101 rfl (lv_at hl 0 rfl) ?_
        refine va_get (ci := 5) (v := .ref (g (b + 1))) (C := RX5) (T := TX5) (N := 12) hx hb hts iw_X5_rail_X5 hown hK hP 0 rfl rfl 0 (by decide) (hts (.fieldLink RX5 7 "BallastTrackModel" "s" "[I") (List.mem_of_getElem? (i := 3) rfl)) (fun _ h9 => h9) rfl dX5_rail_102 ?_
        refine lv_iconst (v := 0) hx hb dX5_rail_105 (by decide) ?_
        refine va_iald hx hb hK hP 1 0 rfl rfl (by unfold vp_in; decide) dX5_rail_106 ?_
        refine lv_topi (fun x140 ex140 => ?_)
        replace hf := nm_i hf ex140
        refine lv_iconst (v := 2) hx hb dX5_rail_107 (by decide) ?_
        refine lv_isub hx hb dX5_rail_108 ?_
        refine lv_topi (fun x141 ex141 => ?_)
        replace hf := nm_i hf ex141
        refine lv_istore_n (lv' := [(3, .int x141), (0, .ref (g b)), (1, .int p0)]) hx hb dX5_rail_109 rfl hl (by decide) rfl (fun ls hl => ?_)
        obtain ⟨z159, hz159, hf⟩ := bd_i hf
        have hL110 : ∀ (n : Nat) (v156 : Int32) (u157 : TM) (z158 : TM), lf_X5_rail_110 fu  n v156 u157 = some z158 → ∀ (H : Heap) (locs : List Loc) (ls : Array Slot), va_P D vwCl (List.flatten [wM cT g b u157]) H → va_S A s.heap H locs → lv_has ls 4 [(0, .ref (g b)), (1, .int p0), (3, .int v156)] → (∀ (H : Heap) (locs : List Loc) (ls : Array Slot), va_P D vwCl (List.flatten [wM cT g b z158]) H → va_S A s.heap H locs → lv_has ls 4 [(0, .ref (g b)), (1, .int p0)] → W p l e rm_X5_rail s m args below meth c H locs 0 0 Q (F0 m 150 ls [])) → W p l e rm_X5_rail s m args below meth c H locs 0 0 Q (F0 m 110 ls []) := by
          refine lq_2_ind (F := lb_X5_rail_110 fu ) (fun rec ih v156 u157 z158 hf H locs ls hP hS hl kx => ?_)
          unfold lb_X5_rail_110 at hf
          refine lv_iload_n hx hb dX5_rail_110 rfl (lv_at hl 2 rfl) ?_
          refine lv_if_lt (tgt := 150) hx hb dX5_rail_111 (by decide) (fun c160 => ?_) (fun c160 => ?_)
          · replace hf := it_t hf c160
            obtain rfl := Option.some.inj hf
            exact kx _ _ _ hP hS (lv_sub hl [0, 1] rfl)
          · replace hf := it_f hf c160
            refine lv_aload_n hx hb dX5_rail_114 rfl (lv_at hl 0 rfl) ?_
            refine va_get (ci := 5) (v := .ref (g (b + 6))) (C := RX5) (T := TX5) (N := 12) hx hb hts iw_X5_rail_X5 hown hK hP 0 rfl rfl 8 (by decide) (hts (.fieldLink RX5 26 "BallastTrackModel" "rail" "[I") (List.mem_of_getElem? (i := 2) rfl)) (fun _ h9 => h9) rfl dX5_rail_115 ?_
            refine lv_iload_n hx hb dX5_rail_118 rfl (lv_at hl 2 rfl) ?_
            refine lv_aload_n hx hb dX5_rail_119 rfl (lv_at hl 0 rfl) ?_
            refine va_get (ci := 5) (v := .ref (g (b + 6))) (C := RX5) (T := TX5) (N := 12) hx hb hts iw_X5_rail_X5 hown hK hP 0 rfl rfl 8 (by decide) (hts (.fieldLink RX5 26 "BallastTrackModel" "rail" "[I") (List.mem_of_getElem? (i := 2) rfl)) (fun _ h9 => h9) rfl dX5_rail_120 ?_
            refine lv_iload_n hx hb dX5_rail_123 rfl (lv_at hl 2 rfl) ?_
            obtain ⟨hi161, hf⟩ := ix_i hf
            refine va_iald hx hb hK hP 6 0 rfl rfl hi161 dX5_rail_124 ?_
            refine lv_topi (fun x162 ex162 => ?_)
            replace hf := nm_i hf ex162
            refine lv_aload_n hx hb dX5_rail_125 rfl (lv_at hl 0 rfl) ?_
            refine va_get (ci := 5) (v := .ref (g (b + 6))) (C := RX5) (T := TX5) (N := 12) hx hb hts iw_X5_rail_X5 hown hK hP 0 rfl rfl 8 (by decide) (hts (.fieldLink RX5 26 "BallastTrackModel" "rail" "[I") (List.mem_of_getElem? (i := 2) rfl)) (fun _ h9 => h9) rfl dX5_rail_126 ?_
            refine lv_iload_n hx hb dX5_rail_129 rfl (lv_at hl 2 rfl) ?_
            refine lv_iconst (v := 1) hx hb dX5_rail_130 (by decide) ?_
            refine lv_iadd hx hb dX5_rail_131 ?_
            refine lv_topi (fun x163 ex163 => ?_)
            replace hf := nm_i hf ex163
            obtain ⟨hi164, hf⟩ := ix_i hf
            refine va_iald hx hb hK hP 6 0 rfl rfl hi164 dX5_rail_132 ?_
            refine lv_topi (fun x165 ex165 => ?_)
            replace hf := nm_i hf ex165
            refine lv_aload_n hx hb dX5_rail_133 rfl (lv_at hl 0 rfl) ?_
            refine va_get (ci := 5) (v := .ref (g (b + 1))) (C := RX5) (T := TX5) (N := 12) hx hb hts iw_X5_rail_X5 hown hK hP 0 rfl rfl 0 (by decide) (hts (.fieldLink RX5 7 "BallastTrackModel" "s" "[I") (List.mem_of_getElem? (i := 3) rfl)) (fun _ h9 => h9) rfl dX5_rail_134 ?_
            refine lv_iconst (v := 1) hx hb dX5_rail_137 (by decide) ?_
            refine va_iald hx hb hK hP 1 0 rfl rfl (by unfold vp_in; decide) dX5_rail_138 ?_
            refine lv_topi (fun x166 ex166 => ?_)
            replace hf := nm_i hf ex166
            refine lv_isub hx hb dX5_rail_139 ?_
            refine lv_topi (fun x167 ex167 => ?_)
            replace hf := nm_i hf ex167
            obtain ⟨o168, ho168, hf⟩ := bd_i hf
            refine cl_i [] [0] [wM cT g b u157] hP (va_D_adr hD rfl) hA hS (va_runS (As := [.int x162, .int x167]) (rest := [.int v156, .ref (g (b + 6))]) ⟨hx, hb, hml, hown, hts⟩ (c_X5_greater l D cT g  fu  x162 x167 o168 ho168 _) (va_cwS 2 hts gX5_rail_X5_greater rfl rfl rfl (by decide +kernel) ⟨Nat.le_of_ble_eq_true rfl, Nat.le_of_ble_eq_true rfl⟩) ⟨PRE_blind, PRE_ok [] (by decide) hP (va_D_adr hD rfl) hA hS hK hN hZ⟩ rfl rfl hl.1 rfl (lv_room (Nat.le_of_ble_eq_true rfl)) dX5_rail_140 ⟨Nat.le_of_ble_eq_true rfl, Nat.le_of_ble_eq_true rfl⟩) rfl 1 rfl (by decide) (by decide) (fun H locs hP hS => ?_)
            obtain ⟨hi169, hf⟩ := ix_i hf
            refine va_iast hx hb hK hP (va_D_adr hD rfl) hS 6 0 rfl rfl hi169 dX5_rail_143 (fun H locs hP _ hS => ?_)
            obtain ⟨u170, eu170⟩ : ∃ z : TM, z = M_ra_ u157 (upd (M_ra u157) v156.toNatClampNeg o168) := ⟨_, rfl⟩
            replace hf := nm_i hf eu170
            have hP : va_P D vwCl (List.flatten [wM cT g b u170]) H := by rw [eu170]; exact hP
            obtain ⟨x171, ex171⟩ : ∃ z : Int32, z = v156 + (-1 : Int32) := ⟨_, rfl⟩
            replace hf := nm_i hf ex171
            refine lv_iinc (v := x171) (lv' := [(3, .int x171), (0, .ref (g b)), (1, .int p0)]) hx hb dX5_rail_144 hl (k := 2) rfl (by rw [ex171]; rfl) (by decide) rfl (fun ls hl => ?_)
            refine lv_goto (tgt := 110) hx hb dX5_rail_147 (by decide) ?_
            exact ih _ _ _ hf _ _ _ hP hS (lv_sub hl [1, 2, 0] rfl) kx
        refine hL110 fu _ _ _ hz159 _ _ _ hP hS (lv_sub hl [1, 2, 0] rfl) (fun H locs ls hP hS hl => ?_)
        refine lv_aload_n hx hb dX5_rail_150 rfl (lv_at hl 0 rfl) ?_
        refine va_get (ci := 5) (v := .ref (g (b + 6))) (C := RX5) (T := TX5) (N := 12) hx hb hts iw_X5_rail_X5 hown hK hP 0 rfl rfl 8 (by decide) (hts (.fieldLink RX5 26 "BallastTrackModel" "rail" "[I") (List.mem_of_getElem? (i := 2) rfl)) (fun _ h9 => h9) rfl dX5_rail_151 ?_
        refine lv_iload_n hx hb dX5_rail_154 rfl (lv_at hl 1 rfl) ?_
        obtain ⟨hi172, hf⟩ := ix_i hf
        refine va_iald hx hb hK hP 6 0 rfl rfl hi172 dX5_rail_155 ?_
        refine lv_topi (fun x173 ex173 => ?_)
        replace hf := nm_i hf ex173
        obtain rfl := Option.some.inj hf
        subst hQ
        exact en_i hx hb hr hP hS hlocks dX5_rail_156
      · replace hf := it_f hf (not_not_intro c70)
        refine lv_aload_n hx hb dX5_rail_25 rfl (lv_at hl 0 rfl) ?_
        obtain ⟨o174, ho174, hf⟩ := bd_i hf
        refine cl_v [0] [] [wM cT g b o174] hP (va_D_adr hD rfl) hA hS (va_runV (As := []) (rest := []) ⟨hx, hb, hml, hown, hts⟩ (c_X5_laysRail l D cT g b fu u_mo  o174 ho174 _) (cwV 0 hts gX5_rail_X5_laysRail rfl rfl rfl (by decide +kernel) ⟨Nat.le_of_ble_eq_true rfl, Nat.le_of_ble_eq_true rfl⟩) ⟨PRE_blind, va_recv hK hP (ci := 5) (q0 := 0) rfl rfl, PRE_ok [0] (by decide) hP (va_D_adr hD rfl) hA hS hK hN hZ⟩ rfl rfl hl.1 rfl (lv_room (Nat.le_of_ble_eq_true rfl)) dX5_rail_26 ⟨Nat.le_of_ble_eq_true rfl, Nat.le_of_ble_eq_true rfl⟩) rfl 1 rfl (by decide) (by decide) (fun H locs hP hS => ?_)
        refine lv_aload_n hx hb dX5_rail_29 rfl (lv_at hl 0 rfl) ?_
        refine va_get (ci := 5) (v := .ref (g (b + 6))) (C := RX5) (T := TX5) (N := 12) hx hb hts iw_X5_rail_X5 hown hK hP 0 rfl rfl 8 (by decide) (hts (.fieldLink RX5 26 "BallastTrackModel" "rail" "[I") (List.mem_of_getElem? (i := 2) rfl)) (fun _ h9 => h9) rfl dX5_rail_30 ?_
        refine lv_iload_n hx hb dX5_rail_33 rfl (lv_at hl 1 rfl) ?_
        obtain ⟨hi175, hf⟩ := ix_i hf
        refine va_iald hx hb hK hP 6 0 rfl rfl hi175 dX5_rail_34 ?_
        refine lv_topi (fun x176 ex176 => ?_)
        replace hf := nm_i hf ex176
        obtain rfl := Option.some.inj hf
        subst hQ
        exact en_i hx hb hr hP hS hlocks dX5_rail_35
    · replace hf := it_f hf (not_not_intro c69)
      refine lv_ldc (v := -100001) hx hb hown (hts (.constant RX5 68 (-100001)) (List.mem_of_getElem? (i := 1) rfl)) dX5_rail_17 ?_
      obtain rfl := Option.some.inj hf
      subst hQ
      exact en_i hx hb hr hP hS hlocks dX5_rail_19
theorem iw_X5_why_X5 : ∀ w ∈ u_ws RX5 TX5 12, w ∈ wsX5_why := by decide +kernel
def lb_X5_why_29 (fu : Nat) (o68 : TM) (rec : Int32 → Int32 → Int32 → Option (Int32 × Int32)) (v123 : Int32) (v124 : Int32) (v125 : Int32) : Option (Int32 × Int32) :=
nm (M_ss o68 0) fun (x128 : Int32) =>
if x128 ≤ v125 then (
some (v123, v124)
)
else (
bd (f_X5_defect fu o68 v125) fun (o130 : Int32) =>
bd (f_X5_size fu  o130) fun (o131 : Int32) =>
jn (fun (x133 : Int32) =>
jn (fun (x157 : Int32) =>
jn (fun (x171 : Int32) =>
nm (v125 + (1 : Int32)) fun (x174 : Int32) =>
rec x157 x171 x174
) fun K90_173 =>
if x133 = 0 then (
K90_173 v124
)
else (
bd (f_X5_defect fu o68 v125) fun (o176 : Int32) =>
bd (f_X5_size fu  o176) fun (o177 : Int32) =>
K90_173 o177
)
) fun K71_167 =>
if x133 = 0 then (
K71_167 v123
)
else (
K71_167 v125
)
) fun K58_155 =>
if o131 ≤ v124 then (
K58_155 ((0 : Int32))
)
else (
K58_155 ((1 : Int32))
)
)

def lf_X5_why_29 (fu : Nat) (o68 : TM) : Nat → Int32 → Int32 → Int32 → Option (Int32 × Int32) := lq_3 (lb_X5_why_29 fu o68)
def f_X5_why (fu : Nat) (u_mo : TM) (p0 : Int32) : Option (Int32 × TM) :=
bd (f_X5_in fu  p0 ((0 : Int32)) ((1 : Int32))) fun (o66 : Bool) =>
if ¬ bI o66 = 0 then (
bd (f_X5_laysRail fu u_mo ) fun (o68 : TM) =>
nm (M_ss o68 4) fun (x69 : Int32) =>
bd (lf_X5_why_29 fu o68 fu ((-100009 : Int32)) x69 ((0 : Int32))) fun (z127 : Int32 × Int32) =>
jn (some (z127.1, o68)
) fun K107_182 =>
if z127.1 = (-100009 : Int32) then (
K107_182 
)
else (
if ¬ p0 = 0 then (
some (z127.2, o68)
)
else (
K107_182 
)
)
)
else (
some ((-100001 : Int32), u_mo)
)

abbrev rm_X5_why : Room := { frames := 2, cells := 0, slots := 0, locals := 43 }
set_option maxHeartbeats 4000000 in
set_option maxRecDepth 100000 in
theorem c_X5_why (l : Launch) (D : va_G) (cT : Nat → ClassId) (g : Nat → Nat) (b : Nat) (fu : Nat) (u_mo : TM) (p0 : Int32) (o : Int32 × TM) (hf : f_X5_why fu u_mo p0 = some o) (sz : Nat) : Met l yX5_why wsX5_why rm_X5_why (va_Pc [.ref (g b), .int p0] (PRE D cT sz (List.flatten [wM cT g b u_mo]))) (QI D o.1 (List.flatten [wM cT g b o.2]) (va_A (List.flatten [wM cT g b u_mo]) sz)) 0 0 (va_A (List.flatten [wM cT g b u_mo]) sz) := by
  refine Met.ofW (cc := cX5_why) (maxL := 6) (ret := (some .int)) (by decide) rfl ?_
  intro p e s m args below meth c s₁ B0 hml hv
  obtain ⟨hav, hsz, hP, hK, hD, hN, hZ⟩ := hv
  have hx := B0.exec
  have hb := B0.bytes
  have hr := B0.returns
  have hts := atoms_spec (ws := wsX5_why) B0.pre
  have hown : s.vm.findClass RX5 = some m.cls := findClass_of_methodNamed B0.named
  have hlocks := B0.notSynchronized
  subst hsz
  have hD := hD.self (sz := s.heap.size)
  have hA : ∀ q : Nat, s.heap.size ≤ q → va_A (List.flatten [wM cT g b u_mo]) s.heap.size q := fun q h => Or.inr h
  generalize va_A (List.flatten [wM cT g b u_mo]) s.heap.size = A at hD hZ hA ⊢
  have hS : va_S A s.heap s.heap [] := va_S.rf
  have hl := lv_entry ([.ref (g b), .int p0]) (n := 6) (Nat.le_of_ble_eq_true rfl)
  rw [hav]
  rw [lg_entry_eq]
  generalize (lg_sl ([.ref (g b), .int p0]) ++ List.replicate (6 - (lg_sl ([.ref (g b), .int p0])).length) Slot.unset).toArray = ls at hl ⊢
  have hl : lv_has ls 6 [(0, .ref (g b)), (1, .int p0)] := hl
  rw [← hav]
  generalize hQ : MQ below _ _ _ _ _ _ = Q
  show W p l e rm_X5_why s m args below meth c s.heap [] 0 0 Q (F0 m 0 ls [])
  unfold f_X5_why at hf
  refine lv_iload_n hx hb dX5_why_0 rfl (lv_at hl 1 rfl) ?_
  refine lv_iconst (v := 0) hx hb dX5_why_1 (by decide) ?_
  refine lv_iconst (v := 1) hx hb dX5_why_2 (by decide) ?_
  obtain ⟨o66, ho66, hf⟩ := bd_i hf
  refine cl_i [] [0] [wM cT g b u_mo] hP (va_D_adr hD rfl) hA hS (va_runS (As := [.int p0, .int ((0 : Int32)), .int ((1 : Int32))]) (rest := []) ⟨hx, hb, hml, hown, hts⟩ (c_X5_in l D cT g  fu  p0 ((0 : Int32)) ((1 : Int32)) o66 ho66 _) (va_cwS 3 hts gX5_why_X5_in rfl rfl rfl (by decide +kernel) ⟨Nat.le_of_ble_eq_true rfl, Nat.le_of_ble_eq_true rfl⟩) ⟨PRE_blind, PRE_ok [] (by decide) hP (va_D_adr hD rfl) hA hS hK hN hZ⟩ rfl rfl hl.1 rfl (lv_room (Nat.le_of_ble_eq_true rfl)) dX5_why_3 ⟨Nat.le_of_ble_eq_true rfl, Nat.le_of_ble_eq_true rfl⟩) rfl 1 rfl (by decide) (by decide) (fun H locs hP hS => ?_)
  refine lv_if_ne (tgt := 12) hx hb dX5_why_6 (by decide) (fun c67 => ?_) (fun c67 => ?_)
  · replace hf := it_t hf c67
    refine lv_aload_n hx hb dX5_why_12 rfl (lv_at hl 0 rfl) ?_
    obtain ⟨o68, ho68, hf⟩ := bd_i hf
    refine cl_v [0] [] [wM cT g b o68] hP (va_D_adr hD rfl) hA hS (va_runV (As := []) (rest := []) ⟨hx, hb, hml, hown, hts⟩ (c_X5_laysRail l D cT g b fu u_mo  o68 ho68 _) (cwV 0 hts gX5_why_X5_laysRail rfl rfl rfl (by decide +kernel) ⟨Nat.le_of_ble_eq_true rfl, Nat.le_of_ble_eq_true rfl⟩) ⟨PRE_blind, va_recv hK hP (ci := 5) (q0 := 0) rfl rfl, PRE_ok [0] (by decide) hP (va_D_adr hD rfl) hA hS hK hN hZ⟩ rfl rfl hl.1 rfl (lv_room (Nat.le_of_ble_eq_true rfl)) dX5_why_13 ⟨Nat.le_of_ble_eq_true rfl, Nat.le_of_ble_eq_true rfl⟩) rfl 1 rfl (by decide) (by decide) (fun H locs hP hS => ?_)
    refine lv_ldc (v := -100009) hx hb hown (hts (.constant RX5 165 (-100009)) (List.mem_of_getElem? (i := 2) rfl)) dX5_why_16 ?_
    refine lv_istore_n (lv' := [(2, .int ((-100009 : Int32))), (0, .ref (g b)), (1, .int p0)]) hx hb dX5_why_18 rfl hl (by decide) rfl (fun ls hl => ?_)
    refine lv_aload_n hx hb dX5_why_19 rfl (lv_at hl 1 rfl) ?_
    refine va_get (ci := 5) (v := .ref (g (b + 1))) (C := RX5) (T := TX5) (N := 12) hx hb hts iw_X5_why_X5 hown hK hP 0 rfl rfl 0 (by decide) (hts (.fieldLink RX5 7 "BallastTrackModel" "s" "[I") (List.mem_of_getElem? (i := 3) rfl)) (fun _ h9 => h9) rfl dX5_why_20 ?_
    refine lv_iconst (v := 4) hx hb dX5_why_23 (by decide) ?_
    refine va_iald hx hb hK hP 1 0 rfl rfl (by unfold vp_in; decide) dX5_why_24 ?_
    refine lv_topi (fun x69 ex69 => ?_)
    replace hf := nm_i hf ex69
    refine lv_istore_n (lv' := [(3, .int x69), (2, .int ((-100009 : Int32))), (0, .ref (g b)), (1, .int p0)]) hx hb dX5_why_25 rfl hl (by decide) rfl (fun ls hl => ?_)
    refine lv_iconst (v := 0) hx hb dX5_why_26 (by decide) ?_
    refine lv_istore (lv' := [(4, .int ((0 : Int32))), (3, .int x69), (2, .int ((-100009 : Int32))), (0, .ref (g b)), (1, .int p0)]) hx hb dX5_why_27 hl (by decide) rfl (fun ls hl => ?_)
    obtain ⟨z127, hz127, hf⟩ := bd_i hf
    have hL29 : ∀ (n : Nat) (v123 : Int32) (v124 : Int32) (v125 : Int32) (z126 : Int32 × Int32), lf_X5_why_29 fu o68 n v123 v124 v125 = some z126 → ∀ (H : Heap) (locs : List Loc) (ls : Array Slot), va_P D vwCl (List.flatten [wM cT g b o68]) H → va_S A s.heap H locs → lv_has ls 6 [(0, .ref (g b)), (1, .int p0), (2, .int v123), (3, .int v124), (4, .int v125)] → (∀ (H : Heap) (locs : List Loc) (ls : Array Slot), va_P D vwCl (List.flatten [wM cT g b o68]) H → va_S A s.heap H locs → lv_has ls 6 [(1, .int p0), (2, .int z126.1), (3, .int z126.2)] → W p l e rm_X5_why s m args below meth c H locs 0 0 Q (F0 m 97 ls [])) → W p l e rm_X5_why s m args below meth c H locs 0 0 Q (F0 m 29 ls []) := by
      refine lq_3_ind (F := lb_X5_why_29 fu o68) (fun rec ih v123 v124 v125 z126 hf H locs ls hP hS hl kx => ?_)
      unfold lb_X5_why_29 at hf
      refine lv_iload hx hb dX5_why_29 (lv_at hl 4 rfl) ?_
      refine lv_aload_n hx hb dX5_why_31 rfl (lv_at hl 0 rfl) ?_
      refine va_get (ci := 5) (v := .ref (g (b + 1))) (C := RX5) (T := TX5) (N := 12) hx hb hts iw_X5_why_X5 hown hK hP 0 rfl rfl 0 (by decide) (hts (.fieldLink RX5 7 "BallastTrackModel" "s" "[I") (List.mem_of_getElem? (i := 3) rfl)) (fun _ h9 => h9) rfl dX5_why_32 ?_
      refine lv_iconst (v := 0) hx hb dX5_why_35 (by decide) ?_
      refine va_iald hx hb hK hP 1 0 rfl rfl (by unfold vp_in; decide) dX5_why_36 ?_
      refine lv_topi (fun x128 ex128 => ?_)
      replace hf := nm_i hf ex128
      refine lv_icmp_ge (tgt := 97) hx hb dX5_why_37 (by decide) (fun c129 => ?_) (fun c129 => ?_)
      · replace hf := it_t hf c129
        obtain rfl := Option.some.inj hf
        exact kx _ _ _ hP hS (lv_sub hl [1, 2, 3] rfl)
      · replace hf := it_f hf c129
        refine lv_aload_n hx hb dX5_why_40 rfl (lv_at hl 0 rfl) ?_
        refine lv_iload hx hb dX5_why_41 (lv_at hl 4 rfl) ?_
        obtain ⟨o130, ho130, hf⟩ := bd_i hf
        refine cl_i [0] [] [wM cT g b o68] hP (va_D_adr hD rfl) hA hS (va_runV (As := [.int v125]) (rest := []) ⟨hx, hb, hml, hown, hts⟩ (c_X5_defect l D cT g b fu o68 v125 o130 ho130 _) (cwV 1 hts gX5_why_X5_defect rfl rfl rfl (by decide +kernel) ⟨Nat.le_of_ble_eq_true rfl, Nat.le_of_ble_eq_true rfl⟩) ⟨PRE_blind, va_recv hK hP (ci := 5) (q0 := 0) rfl rfl, PRE_ok [0] (by decide) hP (va_D_adr hD rfl) hA hS hK hN hZ⟩ rfl rfl hl.1 rfl (lv_room (Nat.le_of_ble_eq_true rfl)) dX5_why_43 ⟨Nat.le_of_ble_eq_true rfl, Nat.le_of_ble_eq_true rfl⟩) rfl 1 rfl (by decide) (by decide) (fun H locs hP hS => ?_)
        obtain ⟨o131, ho131, hf⟩ := bd_i hf
        refine cl_i [] [0] [wM cT g b o68] hP (va_D_adr hD rfl) hA hS (va_runS (As := [.int o130]) (rest := []) ⟨hx, hb, hml, hown, hts⟩ (c_X5_size l D cT g  fu  o130 o131 ho131 _) (va_cwS 1 hts gX5_why_X5_size rfl rfl rfl (by decide +kernel) ⟨Nat.le_of_ble_eq_true rfl, Nat.le_of_ble_eq_true rfl⟩) ⟨PRE_blind, PRE_ok [] (by decide) hP (va_D_adr hD rfl) hA hS hK hN hZ⟩ rfl rfl hl.1 rfl (lv_room (Nat.le_of_ble_eq_true rfl)) dX5_why_46 ⟨Nat.le_of_ble_eq_true rfl, Nat.le_of_ble_eq_true rfl⟩) rfl 1 rfl (by decide) (by decide) (fun H locs hP hS => ?_)
        refine lv_iload_n hx hb dX5_why_49 rfl (lv_at hl 3 rfl) ?_
        obtain ⟨K58_155, eK58_155, hf⟩ := jn_i hf
        have hK58_155 : ∀ (x133 : Int32) (H : Heap) (locs : List Loc) (ls : Array Slot), K58_155 x133 = some z126 → va_P D vwCl (List.flatten [wM cT g b o68]) H → va_S A s.heap H locs → lv_has ls 6 [(0, .ref (g b)), (1, .int p0), (2, .int v123), (3, .int v124), (4, .int v125)] → W p l e rm_X5_why s m args below meth c H locs 0 0 Q (F0 m 58 ls [.int x133]) := by
          intro x133 H locs ls hf hP hS hl
          rw [eK58_155] at hf
          refine lv_istore (lv' := [(5, .int x133), (0, .ref (g b)), (1, .int p0), (2, .int v123), (3, .int v124), (4, .int v125)]) hx hb dX5_why_58 hl (by decide) rfl (fun ls hl => ?_)
          refine lv_iload hx hb dX5_why_60 (lv_at hl 0 rfl) ?_
          obtain ⟨K71_167, eK71_167, hf⟩ := jn_i hf
          have hK71_167 : ∀ (x157 : Int32) (H : Heap) (locs : List Loc) (ls : Array Slot), K71_167 x157 = some z126 → va_P D vwCl (List.flatten [wM cT g b o68]) H → va_S A s.heap H locs → lv_has ls 6 [(0, .ref (g b)), (1, .int p0), (3, .int v124), (4, .int v125), (5, .int x133)] → W p l e rm_X5_why s m args below meth c H locs 0 0 Q (F0 m 71 ls [.int x157]) := by
            intro x157 H locs ls hf hP hS hl
            rw [eK71_167] at hf
            refine lv_istore_n (lv' := [(2, .int x157), (0, .ref (g b)), (1, .int p0), (3, .int v124), (4, .int v125), (5, .int x133)]) hx hb dX5_why_71 rfl hl (by decide) rfl (fun ls hl => ?_)
            refine lv_iload hx hb dX5_why_72 (lv_at hl 5 rfl) ?_
            obtain ⟨K90_173, eK90_173, hf⟩ := jn_i hf
            have hK90_173 : ∀ (x171 : Int32) (H : Heap) (locs : List Loc) (ls : Array Slot), K90_173 x171 = some z126 → va_P D vwCl (List.flatten [wM cT g b o68]) H → va_S A s.heap H locs → lv_has ls 6 [(0, .ref (g b)), (1, .int p0), (2, .int x157), (4, .int v125)] → W p l e rm_X5_why s m args below meth c H locs 0 0 Q (F0 m 90 ls [.int x171]) := by
              intro x171 H locs ls hf hP hS hl
              rw [eK90_173] at hf
              refine lv_istore_n (lv' := [(3, .int x171), (0, .ref (g b)), (1, .int p0), (2, .int x157), (4, .int v125)]) hx hb dX5_why_90 rfl hl (by decide) rfl (fun ls hl => ?_)
              obtain ⟨x174, ex174⟩ : ∃ z : Int32, z = v125 + (1 : Int32) := ⟨_, rfl⟩
              replace hf := nm_i hf ex174
              refine lv_iinc (v := x174) (lv' := [(4, .int x174), (3, .int x171), (0, .ref (g b)), (1, .int p0), (2, .int x157)]) hx hb dX5_why_91 hl (k := 4) rfl (by rw [ex174]; rfl) (by decide) rfl (fun ls hl => ?_)
              refine lv_goto (tgt := 29) hx hb dX5_why_94 (by decide) ?_
              exact ih _ _ _ _ hf _ _ _ hP hS (lv_sub hl [2, 3, 4, 1, 0] rfl) kx
            clear eK90_173
            refine lv_if_eq (tgt := 89) hx hb dX5_why_74 (by decide) (fun c175 => ?_) (fun c175 => ?_)
            · replace hf := it_t hf c175
              refine lv_iload_n hx hb dX5_why_89 rfl (lv_at hl 3 rfl) ?_
              exact hK90_173 _ _ _ _ hf hP hS (lv_sub hl [1, 2, 0, 4] rfl)
            · replace hf := it_f hf c175
              refine lv_aload_n hx hb dX5_why_77 rfl (lv_at hl 1 rfl) ?_
              refine lv_iload hx hb dX5_why_78 (lv_at hl 4 rfl) ?_
              obtain ⟨o176, ho176, hf⟩ := bd_i hf
              refine cl_i [0] [] [wM cT g b o68] hP (va_D_adr hD rfl) hA hS (va_runV (As := [.int v125]) (rest := []) ⟨hx, hb, hml, hown, hts⟩ (c_X5_defect l D cT g b fu o68 v125 o176 ho176 _) (cwV 1 hts gX5_why_X5_defect rfl rfl rfl (by decide +kernel) ⟨Nat.le_of_ble_eq_true rfl, Nat.le_of_ble_eq_true rfl⟩) ⟨PRE_blind, va_recv hK hP (ci := 5) (q0 := 0) rfl rfl, PRE_ok [0] (by decide) hP (va_D_adr hD rfl) hA hS hK hN hZ⟩ rfl rfl hl.1 rfl (lv_room (Nat.le_of_ble_eq_true rfl)) dX5_why_80 ⟨Nat.le_of_ble_eq_true rfl, Nat.le_of_ble_eq_true rfl⟩) rfl 1 rfl (by decide) (by decide) (fun H locs hP hS => ?_)
              obtain ⟨o177, ho177, hf⟩ := bd_i hf
              refine cl_i [] [0] [wM cT g b o68] hP (va_D_adr hD rfl) hA hS (va_runS (As := [.int o176]) (rest := []) ⟨hx, hb, hml, hown, hts⟩ (c_X5_size l D cT g  fu  o176 o177 ho177 _) (va_cwS 1 hts gX5_why_X5_size rfl rfl rfl (by decide +kernel) ⟨Nat.le_of_ble_eq_true rfl, Nat.le_of_ble_eq_true rfl⟩) ⟨PRE_blind, PRE_ok [] (by decide) hP (va_D_adr hD rfl) hA hS hK hN hZ⟩ rfl rfl hl.1 rfl (lv_room (Nat.le_of_ble_eq_true rfl)) dX5_why_83 ⟨Nat.le_of_ble_eq_true rfl, Nat.le_of_ble_eq_true rfl⟩) rfl 1 rfl (by decide) (by decide) (fun H locs hP hS => ?_)
              refine lv_goto (tgt := 90) hx hb dX5_why_86 (by decide) ?_
              exact hK90_173 _ _ _ _ hf hP hS (lv_sub hl [1, 2, 0, 4] rfl)
          clear eK71_167
          refine lv_if_eq (tgt := 70) hx hb dX5_why_62 (by decide) (fun c178 => ?_) (fun c178 => ?_)
          · replace hf := it_t hf c178
            refine lv_iload_n hx hb dX5_why_70 rfl (lv_at hl 3 rfl) ?_
            exact hK71_167 _ _ _ _ hf hP hS (lv_sub hl [1, 2, 4, 5, 0] rfl)
          · replace hf := it_f hf c178
            refine lv_iload hx hb dX5_why_65 (lv_at hl 5 rfl) ?_
            refine lv_goto (tgt := 71) hx hb dX5_why_67 (by decide) ?_
            exact hK71_167 _ _ _ _ hf hP hS (lv_sub hl [1, 2, 4, 5, 0] rfl)
        clear eK58_155
        refine lv_icmp_le (tgt := 57) hx hb dX5_why_50 (by decide) (fun c179 => ?_) (fun c179 => ?_)
        · replace hf := it_t hf c179
          refine lv_iconst (v := 0) hx hb dX5_why_57 (by decide) ?_
          exact hK58_155 _ _ _ _ hf hP hS (lv_sub hl [0, 1, 2, 3, 4] rfl)
        · replace hf := it_f hf c179
          refine lv_iconst (v := 1) hx hb dX5_why_53 (by decide) ?_
          refine lv_goto (tgt := 58) hx hb dX5_why_54 (by decide) ?_
          exact hK58_155 _ _ _ _ hf hP hS (lv_sub hl [0, 1, 2, 3, 4] rfl)
    refine hL29 fu _ _ _ _ hz127 _ _ _ hP hS (lv_sub hl [3, 4, 2, 1, 0] rfl) (fun H locs ls hP hS hl => ?_)
    refine lv_iload_n hx hb dX5_why_97 rfl (lv_at hl 1 rfl) ?_
    refine lv_ldc (v := -100009) hx hb hown (hts (.constant RX5 165 (-100009)) (List.mem_of_getElem? (i := 2) rfl)) dX5_why_98 ?_
    obtain ⟨K107_182, eK107_182, hf⟩ := jn_i hf
    have hK107_182 : ∀  (H : Heap) (locs : List Loc) (ls : Array Slot), K107_182  = some o → va_P D vwCl (List.flatten [wM cT g b o68]) H → va_S A s.heap H locs → lv_has ls 6 [(2, .int z127.1)] → W p l e rm_X5_why s m args below meth c H locs 0 0 Q (F0 m 107 ls []) := by
      intro  H locs ls hf hP hS hl
      rw [eK107_182] at hf
      refine lv_iload_n hx hb dX5_why_107 rfl (lv_at hl 0 rfl) ?_
      refine lv_goto (tgt := 112) hx hb dX5_why_108 (by decide) ?_
      obtain rfl := Option.some.inj hf
      subst hQ
      exact en_i hx hb hr hP hS hlocks dX5_why_112
    clear eK107_182
    refine lv_icmp_eq (tgt := 107) hx hb dX5_why_100 (by decide) (fun c183 => ?_) (fun c183 => ?_)
    · replace hf := it_t hf c183
      exact hK107_182  _ _ _ hf hP hS (lv_sub hl [1] rfl)
    · replace hf := it_f hf c183
      refine lv_iload_n hx hb dX5_why_103 rfl (lv_at hl 0 rfl) ?_
      refine lv_if_ne (tgt := 111) hx hb dX5_why_104 (by decide) (fun c184 => ?_) (fun c184 => ?_)
      · replace hf := it_t hf c184
        refine lv_iload_n hx hb dX5_why_111 rfl (lv_at hl 2 rfl) ?_
        obtain rfl := Option.some.inj hf
        subst hQ
        exact en_i hx hb hr hP hS hlocks dX5_why_112
      · replace hf := it_f hf (not_not_intro c184)
        exact hK107_182  _ _ _ hf hP hS (lv_sub hl [1] rfl)
  · replace hf := it_f hf (not_not_intro c67)
    refine lv_ldc (v := -100001) hx hb hown (hts (.constant RX5 68 (-100001)) (List.mem_of_getElem? (i := 1) rfl)) dX5_why_9 ?_
    obtain rfl := Option.some.inj hf
    subst hQ
    exact en_i hx hb hr hP hS hlocks dX5_why_11
theorem iw_X5_lifts_X5 : ∀ w ∈ u_ws RX5 TX5 12, w ∈ wsX5_lifts := by decide +kernel
def f_X5_lifts (fu : Nat) (u_mo : TM) (p0 : Int32) (p1 : Int32) : Option (Int32) :=
bd (f_X5_isSleeper fu u_mo p0) fun (o14 : Bool) =>
if bI o14 = 0 then (
some ((-100001 : Int32))
)
else (
bd (f_X5_isLevel fu  p1) fun (o16 : Bool) =>
if ¬ bI o16 = 0 then (
bd (f_X5_liftOf fu u_mo p0 p1) fun (o18 : Int32) =>
if 0 < o18 then (
nm (M_ss u_mo 8) fun (x20 : Int32) =>
if x20 ≤ o18 then (
nm ((41 : Int32) + p0) fun (x22 : Int32) =>
ix x22 281 <|
nm ((M_ss u_mo) x22.toNatClampNeg) fun (x24 : Int32) =>
nm (p1 - x24) fun (x25 : Int32) =>
if ¬ o18 = x25 then (
some ((1 : Int32))
)
else (
some ((0 : Int32))
)
)
else (
some ((3 : Int32))
)
)
else (
some ((2 : Int32))
)
)
else (
some ((-100001 : Int32))
)
)

abbrev rm_X5_lifts : Room := { frames := 2, cells := 0, slots := 0, locals := 43 }
set_option maxHeartbeats 4000000 in
set_option maxRecDepth 100000 in
theorem c_X5_lifts (l : Launch) (D : va_G) (cT : Nat → ClassId) (g : Nat → Nat) (b : Nat) (fu : Nat) (u_mo : TM) (p0 : Int32) (p1 : Int32) (o : Int32) (hf : f_X5_lifts fu u_mo p0 p1 = some o) (sz : Nat) : Met l yX5_lifts wsX5_lifts rm_X5_lifts (va_Pc [.ref (g b), .int p0, .int p1] (PRE D cT sz (List.flatten [wM cT g b u_mo]))) (QI D o (List.flatten [wM cT g b u_mo]) (va_A (List.flatten [wM cT g b u_mo]) sz)) 0 0 (va_A (List.flatten [wM cT g b u_mo]) sz) := by
  refine Met.ofW (cc := cX5_lifts) (maxL := 4) (ret := (some .int)) (by decide) rfl ?_
  intro p e s m args below meth c s₁ B0 hml hv
  obtain ⟨hav, hsz, hP, hK, hD, hN, hZ⟩ := hv
  have hx := B0.exec
  have hb := B0.bytes
  have hr := B0.returns
  have hts := atoms_spec (ws := wsX5_lifts) B0.pre
  have hown : s.vm.findClass RX5 = some m.cls := findClass_of_methodNamed B0.named
  have hlocks := B0.notSynchronized
  subst hsz
  have hD := hD.self (sz := s.heap.size)
  have hA : ∀ q : Nat, s.heap.size ≤ q → va_A (List.flatten [wM cT g b u_mo]) s.heap.size q := fun q h => Or.inr h
  generalize va_A (List.flatten [wM cT g b u_mo]) s.heap.size = A at hD hZ hA ⊢
  have hS : va_S A s.heap s.heap [] := va_S.rf
  have hl := lv_entry ([.ref (g b), .int p0, .int p1]) (n := 4) (Nat.le_of_ble_eq_true rfl)
  rw [hav]
  rw [lg_entry_eq]
  generalize (lg_sl ([.ref (g b), .int p0, .int p1]) ++ List.replicate (4 - (lg_sl ([.ref (g b), .int p0, .int p1])).length) Slot.unset).toArray = ls at hl ⊢
  have hl : lv_has ls 4 [(0, .ref (g b)), (1, .int p0), (2, .int p1)] := hl
  rw [← hav]
  generalize hQ : MQ below _ _ _ _ _ _ = Q
  show W p l e rm_X5_lifts s m args below meth c s.heap [] 0 0 Q (F0 m 0 ls [])
  unfold f_X5_lifts at hf
  refine lv_aload_n hx hb dX5_lifts_0 rfl (lv_at hl 0 rfl) ?_
  refine lv_iload_n hx hb dX5_lifts_1 rfl (lv_at hl 1 rfl) ?_
  obtain ⟨o14, ho14, hf⟩ := bd_i hf
  refine cl_i [0] [] [wM cT g b u_mo] hP (va_D_adr hD rfl) hA hS (va_runV (As := [.int p0]) (rest := []) ⟨hx, hb, hml, hown, hts⟩ (c_X5_isSleeper l D cT g b fu u_mo p0 o14 ho14 _) (cwV 1 hts gX5_lifts_X5_isSleeper rfl rfl rfl (by decide +kernel) ⟨Nat.le_of_ble_eq_true rfl, Nat.le_of_ble_eq_true rfl⟩) ⟨PRE_blind, va_recv hK hP (ci := 5) (q0 := 0) rfl rfl, PRE_ok [0] (by decide) hP (va_D_adr hD rfl) hA hS hK hN hZ⟩ rfl rfl hl.1 rfl (lv_room (Nat.le_of_ble_eq_true rfl)) dX5_lifts_2 ⟨Nat.le_of_ble_eq_true rfl, Nat.le_of_ble_eq_true rfl⟩) rfl 1 rfl (by decide) (by decide) (fun H locs hP hS => ?_)
  refine lv_if_eq (tgt := 15) hx hb dX5_lifts_5 (by decide) (fun c15 => ?_) (fun c15 => ?_)
  · replace hf := it_t hf c15
    refine lv_ldc (v := -100001) hx hb hown (hts (.constant RX5 68 (-100001)) (List.mem_of_getElem? (i := 1) rfl)) dX5_lifts_15 ?_
    obtain rfl := Option.some.inj hf
    subst hQ
    exact en_i hx hb hr hP hS hlocks dX5_lifts_17
  · replace hf := it_f hf c15
    refine lv_iload_n hx hb dX5_lifts_8 rfl (lv_at hl 2 rfl) ?_
    obtain ⟨o16, ho16, hf⟩ := bd_i hf
    refine cl_i [] [0] [wM cT g b u_mo] hP (va_D_adr hD rfl) hA hS (va_runS (As := [.int p1]) (rest := []) ⟨hx, hb, hml, hown, hts⟩ (c_X5_isLevel l D cT g  fu  p1 o16 ho16 _) (va_cwS 1 hts gX5_lifts_X5_isLevel rfl rfl rfl (by decide +kernel) ⟨Nat.le_of_ble_eq_true rfl, Nat.le_of_ble_eq_true rfl⟩) ⟨PRE_blind, PRE_ok [] (by decide) hP (va_D_adr hD rfl) hA hS hK hN hZ⟩ rfl rfl hl.1 rfl (lv_room (Nat.le_of_ble_eq_true rfl)) dX5_lifts_9 ⟨Nat.le_of_ble_eq_true rfl, Nat.le_of_ble_eq_true rfl⟩) rfl 1 rfl (by decide) (by decide) (fun H locs hP hS => ?_)
    refine lv_if_ne (tgt := 18) hx hb dX5_lifts_12 (by decide) (fun c17 => ?_) (fun c17 => ?_)
    · replace hf := it_t hf c17
      refine lv_aload_n hx hb dX5_lifts_18 rfl (lv_at hl 0 rfl) ?_
      refine lv_iload_n hx hb dX5_lifts_19 rfl (lv_at hl 1 rfl) ?_
      refine lv_iload_n hx hb dX5_lifts_20 rfl (lv_at hl 2 rfl) ?_
      obtain ⟨o18, ho18, hf⟩ := bd_i hf
      refine cl_i [0] [] [wM cT g b u_mo] hP (va_D_adr hD rfl) hA hS (va_runV (As := [.int p0, .int p1]) (rest := []) ⟨hx, hb, hml, hown, hts⟩ (c_X5_liftOf l D cT g b fu u_mo p0 p1 o18 ho18 _) (cwV 2 hts gX5_lifts_X5_liftOf rfl rfl rfl (by decide +kernel) ⟨Nat.le_of_ble_eq_true rfl, Nat.le_of_ble_eq_true rfl⟩) ⟨PRE_blind, va_recv hK hP (ci := 5) (q0 := 0) rfl rfl, PRE_ok [0] (by decide) hP (va_D_adr hD rfl) hA hS hK hN hZ⟩ rfl rfl hl.1 rfl (lv_room (Nat.le_of_ble_eq_true rfl)) dX5_lifts_21 ⟨Nat.le_of_ble_eq_true rfl, Nat.le_of_ble_eq_true rfl⟩) rfl 1 rfl (by decide) (by decide) (fun H locs hP hS => ?_)
      refine lv_istore_n (lv' := [(3, .int o18), (0, .ref (g b)), (1, .int p0), (2, .int p1)]) hx hb dX5_lifts_24 rfl hl (by decide) rfl (fun ls hl => ?_)
      refine lv_iload_n hx hb dX5_lifts_25 rfl (lv_at hl 0 rfl) ?_
      refine lv_if_gt (tgt := 31) hx hb dX5_lifts_26 (by decide) (fun c19 => ?_) (fun c19 => ?_)
      · replace hf := it_t hf c19
        refine lv_iload_n hx hb dX5_lifts_31 rfl (lv_at hl 0 rfl) ?_
        refine lv_aload_n hx hb dX5_lifts_32 rfl (lv_at hl 1 rfl) ?_
        refine va_get (ci := 5) (v := .ref (g (b + 1))) (C := RX5) (T := TX5) (N := 12) hx hb hts iw_X5_lifts_X5 hown hK hP 0 rfl rfl 0 (by decide) (hts (.fieldLink RX5 7 "BallastTrackModel" "s" "[I") (List.mem_of_getElem? (i := 2) rfl)) (fun _ h9 => h9) rfl dX5_lifts_33 ?_
        refine lv_bipush (v := 8) hx hb dX5_lifts_36 (by decide) ?_
        refine va_iald hx hb hK hP 1 0 rfl rfl (by unfold vp_in; decide) dX5_lifts_38 ?_
        refine lv_topi (fun x20 ex20 => ?_)
        replace hf := nm_i hf ex20
        refine lv_icmp_ge (tgt := 44) hx hb dX5_lifts_39 (by decide) (fun c21 => ?_) (fun c21 => ?_)
        · replace hf := it_t hf c21
          refine lv_iload_n hx hb dX5_lifts_44 rfl (lv_at hl 0 rfl) ?_
          refine lv_iload_n hx hb dX5_lifts_45 rfl (lv_at hl 3 rfl) ?_
          refine lv_aload_n hx hb dX5_lifts_46 rfl (lv_at hl 1 rfl) ?_
          refine va_get (ci := 5) (v := .ref (g (b + 1))) (C := RX5) (T := TX5) (N := 12) hx hb hts iw_X5_lifts_X5 hown hK hP 0 rfl rfl 0 (by decide) (hts (.fieldLink RX5 7 "BallastTrackModel" "s" "[I") (List.mem_of_getElem? (i := 2) rfl)) (fun _ h9 => h9) rfl dX5_lifts_47 ?_
          refine lv_bipush (v := 41) hx hb dX5_lifts_50 (by decide) ?_
          refine lv_iload_n hx hb dX5_lifts_52 rfl (lv_at hl 2 rfl) ?_
          refine lv_iadd hx hb dX5_lifts_53 ?_
          refine lv_topi (fun x22 ex22 => ?_)
          replace hf := nm_i hf ex22
          obtain ⟨hi23, hf⟩ := ix_i hf
          refine va_iald hx hb hK hP 1 0 rfl rfl hi23 dX5_lifts_54 ?_
          refine lv_topi (fun x24 ex24 => ?_)
          replace hf := nm_i hf ex24
          refine lv_isub hx hb dX5_lifts_55 ?_
          refine lv_topi (fun x25 ex25 => ?_)
          replace hf := nm_i hf ex25
          refine lv_icmp_ne (tgt := 63) hx hb dX5_lifts_56 (by decide) (fun c26 => ?_) (fun c26 => ?_)
          · replace hf := it_t hf c26
            refine lv_iconst (v := 1) hx hb dX5_lifts_63 (by decide) ?_
            obtain rfl := Option.some.inj hf
            subst hQ
            exact en_i hx hb hr hP hS hlocks dX5_lifts_64
          · replace hf := it_f hf (not_not_intro c26)
            refine lv_iconst (v := 0) hx hb dX5_lifts_59 (by decide) ?_
            refine lv_goto (tgt := 64) hx hb dX5_lifts_60 (by decide) ?_
            obtain rfl := Option.some.inj hf
            subst hQ
            exact en_i hx hb hr hP hS hlocks dX5_lifts_64
        · replace hf := it_f hf c21
          refine lv_iconst (v := 3) hx hb dX5_lifts_42 (by decide) ?_
          obtain rfl := Option.some.inj hf
          subst hQ
          exact en_i hx hb hr hP hS hlocks dX5_lifts_43
      · replace hf := it_f hf c19
        refine lv_iconst (v := 2) hx hb dX5_lifts_29 (by decide) ?_
        obtain rfl := Option.some.inj hf
        subst hQ
        exact en_i hx hb hr hP hS hlocks dX5_lifts_30
    · replace hf := it_f hf (not_not_intro c17)
      refine lv_ldc (v := -100001) hx hb hown (hts (.constant RX5 68 (-100001)) (List.mem_of_getElem? (i := 1) rfl)) dX5_lifts_15 ?_
      obtain rfl := Option.some.inj hf
      subst hQ
      exact en_i hx hb hr hP hS hlocks dX5_lifts_17
def lb_X5_trainsUntil_37 (fu : Nat) (p0 : Int32) (p1 : Int32) (p2 : Int32) (rec : Int32 → Int32 → TM → Option (Int32 × Int32 × TM)) (v37 : Int32) (v38 : Int32) (u39 : TM) : Option (Int32 × Int32 × TM) :=
if p2 ≤ v38 then (
some (v37, v38, u39)
)
else (
if (200 : Int32) ≤ v37 then (
some (v37, v38, u39)
)
else (
bd (f_X5_passes fu u39 p0 p1 v38) fun (o44 : TM) =>
bd (f_X5_order fu o44 ) fun (o45 : Int32) =>
nm (v37 + (1 : Int32)) fun (x46 : Int32) =>
rec x46 o45 o44
)
)

def lf_X5_trainsUntil_37 (fu : Nat) (p0 : Int32) (p1 : Int32) (p2 : Int32) : Nat → Int32 → Int32 → TM → Option (Int32 × Int32 × TM) := lq_3 (lb_X5_trainsUntil_37 fu p0 p1 p2)
def f_X5_trainsUntil (fu : Nat) (u_mo : TM) (p0 : Int32) (p1 : Int32) (p2 : Int32) : Option (Int32 × TM) :=
bd (f_X5_isTrain fu  p0 p1) fun (o22 : Bool) =>
if bI o22 = 0 then (
some ((-100001 : Int32), u_mo)
)
else (
bd (f_X5_in fu  p2 ((1 : Int32)) ((3 : Int32))) fun (o24 : Bool) =>
if ¬ bI o24 = 0 then (
bd (f_X5_putAside fu u_mo ) fun (o26 : TM) =>
bd (f_X5_laysRail fu o26 ) fun (o27 : TM) =>
bd (f_X5_order fu o27 ) fun (o28 : Int32) =>
bd (lf_X5_trainsUntil_37 fu p0 p1 p2 fu ((0 : Int32)) o28 o27) fun (z41 : Int32 × Int32 × TM) =>
bd (f_X5_putBack fu z41.2.2 ) fun (o47 : TM) =>
if p2 ≤ z41.2.1 then (
some (z41.1, o47)
)
else (
some ((-100009 : Int32), o47)
)
)
else (
some ((-100001 : Int32), u_mo)
)
)

abbrev rm_X5_trainsUntil : Room := { frames := 5, cells := 0, slots := 0, locals := 119 }
set_option maxHeartbeats 4000000 in
set_option maxRecDepth 100000 in
theorem c_X5_trainsUntil (l : Launch) (D : va_G) (cT : Nat → ClassId) (g : Nat → Nat) (b : Nat) (fu : Nat) (u_mo : TM) (p0 : Int32) (p1 : Int32) (p2 : Int32) (o : Int32 × TM) (hf : f_X5_trainsUntil fu u_mo p0 p1 p2 = some o) (sz : Nat) : Met l yX5_trainsUntil wsX5_trainsUntil rm_X5_trainsUntil (va_Pc [.ref (g b), .int p0, .int p1, .int p2] (PRE D cT sz (List.flatten [wM cT g b u_mo]))) (QI D o.1 (List.flatten [wM cT g b o.2]) (va_A (List.flatten [wM cT g b u_mo]) sz)) 0 0 (va_A (List.flatten [wM cT g b u_mo]) sz) := by
  refine Met.ofW (cc := cX5_trainsUntil) (maxL := 6) (ret := (some .int)) (by decide) rfl ?_
  intro p e s m args below meth c s₁ B0 hml hv
  obtain ⟨hav, hsz, hP, hK, hD, hN, hZ⟩ := hv
  have hx := B0.exec
  have hb := B0.bytes
  have hr := B0.returns
  have hts := atoms_spec (ws := wsX5_trainsUntil) B0.pre
  have hown : s.vm.findClass RX5 = some m.cls := findClass_of_methodNamed B0.named
  have hlocks := B0.notSynchronized
  subst hsz
  have hD := hD.self (sz := s.heap.size)
  have hA : ∀ q : Nat, s.heap.size ≤ q → va_A (List.flatten [wM cT g b u_mo]) s.heap.size q := fun q h => Or.inr h
  generalize va_A (List.flatten [wM cT g b u_mo]) s.heap.size = A at hD hZ hA ⊢
  have hS : va_S A s.heap s.heap [] := va_S.rf
  have hl := lv_entry ([.ref (g b), .int p0, .int p1, .int p2]) (n := 6) (Nat.le_of_ble_eq_true rfl)
  rw [hav]
  rw [lg_entry_eq]
  generalize (lg_sl ([.ref (g b), .int p0, .int p1, .int p2]) ++ List.replicate (6 - (lg_sl ([.ref (g b), .int p0, .int p1, .int p2])).length) Slot.unset).toArray = ls at hl ⊢
  have hl : lv_has ls 6 [(0, .ref (g b)), (1, .int p0), (2, .int p1), (3, .int p2)] := hl
  rw [← hav]
  generalize hQ : MQ below _ _ _ _ _ _ = Q
  show W p l e rm_X5_trainsUntil s m args below meth c s.heap [] 0 0 Q (F0 m 0 ls [])
  unfold f_X5_trainsUntil at hf
  refine lv_iload_n hx hb dX5_trainsUntil_0 rfl (lv_at hl 1 rfl) ?_
  refine lv_iload_n hx hb dX5_trainsUntil_1 rfl (lv_at hl 2 rfl) ?_
  obtain ⟨o22, ho22, hf⟩ := bd_i hf
  refine cl_i [] [0] [wM cT g b u_mo] hP (va_D_adr hD rfl) hA hS (va_runS (As := [.int p0, .int p1]) (rest := []) ⟨hx, hb, hml, hown, hts⟩ (c_X5_isTrain l D cT g  fu  p0 p1 o22 ho22 _) (va_cwS 2 hts gX5_trainsUntil_X5_isTrain rfl rfl rfl (by decide +kernel) ⟨Nat.le_of_ble_eq_true rfl, Nat.le_of_ble_eq_true rfl⟩) ⟨PRE_blind, PRE_ok [] (by decide) hP (va_D_adr hD rfl) hA hS hK hN hZ⟩ rfl rfl hl.1 rfl (lv_room (Nat.le_of_ble_eq_true rfl)) dX5_trainsUntil_2 ⟨Nat.le_of_ble_eq_true rfl, Nat.le_of_ble_eq_true rfl⟩) rfl 1 rfl (by decide) (by decide) (fun H locs hP hS => ?_)
  refine lv_if_eq (tgt := 17) hx hb dX5_trainsUntil_5 (by decide) (fun c23 => ?_) (fun c23 => ?_)
  · replace hf := it_t hf c23
    refine lv_ldc (v := -100001) hx hb hown (hts (.constant RX5 68 (-100001)) (List.mem_of_getElem? (i := 1) rfl)) dX5_trainsUntil_17 ?_
    obtain rfl := Option.some.inj hf
    subst hQ
    exact en_i hx hb hr hP hS hlocks dX5_trainsUntil_19
  · replace hf := it_f hf c23
    refine lv_iload_n hx hb dX5_trainsUntil_8 rfl (lv_at hl 3 rfl) ?_
    refine lv_iconst (v := 1) hx hb dX5_trainsUntil_9 (by decide) ?_
    refine lv_iconst (v := 3) hx hb dX5_trainsUntil_10 (by decide) ?_
    obtain ⟨o24, ho24, hf⟩ := bd_i hf
    refine cl_i [] [0] [wM cT g b u_mo] hP (va_D_adr hD rfl) hA hS (va_runS (As := [.int p2, .int ((1 : Int32)), .int ((3 : Int32))]) (rest := []) ⟨hx, hb, hml, hown, hts⟩ (c_X5_in l D cT g  fu  p2 ((1 : Int32)) ((3 : Int32)) o24 ho24 _) (va_cwS 3 hts gX5_trainsUntil_X5_in rfl rfl rfl (by decide +kernel) ⟨Nat.le_of_ble_eq_true rfl, Nat.le_of_ble_eq_true rfl⟩) ⟨PRE_blind, PRE_ok [] (by decide) hP (va_D_adr hD rfl) hA hS hK hN hZ⟩ rfl rfl hl.1 rfl (lv_room (Nat.le_of_ble_eq_true rfl)) dX5_trainsUntil_11 ⟨Nat.le_of_ble_eq_true rfl, Nat.le_of_ble_eq_true rfl⟩) rfl 1 rfl (by decide) (by decide) (fun H locs hP hS => ?_)
    refine lv_if_ne (tgt := 20) hx hb dX5_trainsUntil_14 (by decide) (fun c25 => ?_) (fun c25 => ?_)
    · replace hf := it_t hf c25
      refine lv_aload_n hx hb dX5_trainsUntil_20 rfl (lv_at hl 0 rfl) ?_
      obtain ⟨o26, ho26, hf⟩ := bd_i hf
      refine cl_v [0] [] [wM cT g b o26] hP (va_D_adr hD rfl) hA hS (va_runV (As := []) (rest := []) ⟨hx, hb, hml, hown, hts⟩ (c_X5_putAside l D cT g b fu u_mo  o26 ho26 _) (cwV 0 hts gX5_trainsUntil_X5_putAside rfl rfl rfl (by decide +kernel) ⟨Nat.le_of_ble_eq_true rfl, Nat.le_of_ble_eq_true rfl⟩) ⟨PRE_blind, va_recv hK hP (ci := 5) (q0 := 0) rfl rfl, PRE_ok [0] (by decide) hP (va_D_adr hD rfl) hA hS hK hN hZ⟩ rfl rfl hl.1 rfl (lv_room (Nat.le_of_ble_eq_true rfl)) dX5_trainsUntil_21 ⟨Nat.le_of_ble_eq_true rfl, Nat.le_of_ble_eq_true rfl⟩) rfl 1 rfl (by decide) (by decide) (fun H locs hP hS => ?_)
      refine lv_aload_n hx hb dX5_trainsUntil_24 rfl (lv_at hl 0 rfl) ?_
      obtain ⟨o27, ho27, hf⟩ := bd_i hf
      refine cl_v [0] [] [wM cT g b o27] hP (va_D_adr hD rfl) hA hS (va_runV (As := []) (rest := []) ⟨hx, hb, hml, hown, hts⟩ (c_X5_laysRail l D cT g b fu o26  o27 ho27 _) (cwV 0 hts gX5_trainsUntil_X5_laysRail rfl rfl rfl (by decide +kernel) ⟨Nat.le_of_ble_eq_true rfl, Nat.le_of_ble_eq_true rfl⟩) ⟨PRE_blind, va_recv hK hP (ci := 5) (q0 := 0) rfl rfl, PRE_ok [0] (by decide) hP (va_D_adr hD rfl) hA hS hK hN hZ⟩ rfl rfl hl.1 rfl (lv_room (Nat.le_of_ble_eq_true rfl)) dX5_trainsUntil_25 ⟨Nat.le_of_ble_eq_true rfl, Nat.le_of_ble_eq_true rfl⟩) rfl 1 rfl (by decide) (by decide) (fun H locs hP hS => ?_)
      refine lv_iconst (v := 0) hx hb dX5_trainsUntil_28 (by decide) ?_
      refine lv_istore (lv' := [(4, .int ((0 : Int32))), (0, .ref (g b)), (1, .int p0), (2, .int p1), (3, .int p2)]) hx hb dX5_trainsUntil_29 hl (by decide) rfl (fun ls hl => ?_)
      refine lv_aload_n hx hb dX5_trainsUntil_31 rfl (lv_at hl 1 rfl) ?_
      obtain ⟨o28, ho28, hf⟩ := bd_i hf
      refine cl_i [0] [] [wM cT g b o27] hP (va_D_adr hD rfl) hA hS (va_runV (As := []) (rest := []) ⟨hx, hb, hml, hown, hts⟩ (c_X5_order l D cT g b fu o27  o28 ho28 _) (cwV 0 hts gX5_trainsUntil_X5_order rfl rfl rfl (by decide +kernel) ⟨Nat.le_of_ble_eq_true rfl, Nat.le_of_ble_eq_true rfl⟩) ⟨PRE_blind, va_recv hK hP (ci := 5) (q0 := 0) rfl rfl, PRE_ok [0] (by decide) hP (va_D_adr hD rfl) hA hS hK hN hZ⟩ rfl rfl hl.1 rfl (lv_room (Nat.le_of_ble_eq_true rfl)) dX5_trainsUntil_32 ⟨Nat.le_of_ble_eq_true rfl, Nat.le_of_ble_eq_true rfl⟩) rfl 1 rfl (by decide) (by decide) (fun H locs hP hS => ?_)
      refine lv_istore (lv' := [(5, .int o28), (4, .int ((0 : Int32))), (0, .ref (g b)), (1, .int p0), (2, .int p1), (3, .int p2)]) hx hb dX5_trainsUntil_35 hl (by decide) rfl (fun ls hl => ?_)
      obtain ⟨z41, hz41, hf⟩ := bd_i hf
      have hL37 : ∀ (n : Nat) (v37 : Int32) (v38 : Int32) (u39 : TM) (z40 : Int32 × Int32 × TM), lf_X5_trainsUntil_37 fu p0 p1 p2 n v37 v38 u39 = some z40 → ∀ (H : Heap) (locs : List Loc) (ls : Array Slot), va_P D vwCl (List.flatten [wM cT g b u39]) H → va_S A s.heap H locs → lv_has ls 6 [(0, .ref (g b)), (1, .int p0), (2, .int p1), (3, .int p2), (4, .int v37), (5, .int v38)] → (∀ (H : Heap) (locs : List Loc) (ls : Array Slot), va_P D vwCl (List.flatten [wM cT g b z40.2.2]) H → va_S A s.heap H locs → lv_has ls 6 [(0, .ref (g b)), (3, .int p2), (4, .int z40.1), (5, .int z40.2.1)] → W p l e rm_X5_trainsUntil s m args below meth c H locs 0 0 Q (F0 m 71 ls [])) → W p l e rm_X5_trainsUntil s m args below meth c H locs 0 0 Q (F0 m 37 ls []) := by
        refine lq_3_ind (F := lb_X5_trainsUntil_37 fu p0 p1 p2) (fun rec ih v37 v38 u39 z40 hf H locs ls hP hS hl kx => ?_)
        unfold lb_X5_trainsUntil_37 at hf
        refine lv_iload hx hb dX5_trainsUntil_37 (lv_at hl 5 rfl) ?_
        refine lv_iload_n hx hb dX5_trainsUntil_39 rfl (lv_at hl 3 rfl) ?_
        refine lv_icmp_ge (tgt := 71) hx hb dX5_trainsUntil_40 (by decide) (fun c42 => ?_) (fun c42 => ?_)
        · replace hf := it_t hf c42
          obtain rfl := Option.some.inj hf
          exact kx _ _ _ hP hS (lv_sub hl [0, 3, 4, 5] rfl)
        · replace hf := it_f hf c42
          refine lv_iload hx hb dX5_trainsUntil_43 (lv_at hl 4 rfl) ?_
          refine lv_sipush (v := 200) hx hb dX5_trainsUntil_45 (by decide) ?_
          refine lv_icmp_ge (tgt := 71) hx hb dX5_trainsUntil_48 (by decide) (fun c43 => ?_) (fun c43 => ?_)
          · replace hf := it_t hf c43
            obtain rfl := Option.some.inj hf
            exact kx _ _ _ hP hS (lv_sub hl [0, 3, 4, 5] rfl)
          · replace hf := it_f hf c43
            refine lv_aload_n hx hb dX5_trainsUntil_51 rfl (lv_at hl 0 rfl) ?_
            refine lv_iload_n hx hb dX5_trainsUntil_52 rfl (lv_at hl 1 rfl) ?_
            refine lv_iload_n hx hb dX5_trainsUntil_53 rfl (lv_at hl 2 rfl) ?_
            refine lv_iload hx hb dX5_trainsUntil_54 (lv_at hl 5 rfl) ?_
            obtain ⟨o44, ho44, hf⟩ := bd_i hf
            refine cl_v [0] [] [wM cT g b o44] hP (va_D_adr hD rfl) hA hS (va_runV (As := [.int p0, .int p1, .int v38]) (rest := []) ⟨hx, hb, hml, hown, hts⟩ (c_X5_passes l D cT g b fu u39 p0 p1 v38 o44 ho44 _) (cwV 3 hts gX5_trainsUntil_X5_passes rfl rfl rfl (by decide +kernel) ⟨Nat.le_of_ble_eq_true rfl, Nat.le_of_ble_eq_true rfl⟩) ⟨PRE_blind, va_recv hK hP (ci := 5) (q0 := 0) rfl rfl, PRE_ok [0] (by decide) hP (va_D_adr hD rfl) hA hS hK hN hZ⟩ rfl rfl hl.1 rfl (lv_room (Nat.le_of_ble_eq_true rfl)) dX5_trainsUntil_56 ⟨Nat.le_of_ble_eq_true rfl, Nat.le_of_ble_eq_true rfl⟩) rfl 1 rfl (by decide) (by decide) (fun H locs hP hS => ?_)
            refine lv_aload_n hx hb dX5_trainsUntil_59 rfl (lv_at hl 0 rfl) ?_
            obtain ⟨o45, ho45, hf⟩ := bd_i hf
            refine cl_i [0] [] [wM cT g b o44] hP (va_D_adr hD rfl) hA hS (va_runV (As := []) (rest := []) ⟨hx, hb, hml, hown, hts⟩ (c_X5_order l D cT g b fu o44  o45 ho45 _) (cwV 0 hts gX5_trainsUntil_X5_order rfl rfl rfl (by decide +kernel) ⟨Nat.le_of_ble_eq_true rfl, Nat.le_of_ble_eq_true rfl⟩) ⟨PRE_blind, va_recv hK hP (ci := 5) (q0 := 0) rfl rfl, PRE_ok [0] (by decide) hP (va_D_adr hD rfl) hA hS hK hN hZ⟩ rfl rfl hl.1 rfl (lv_room (Nat.le_of_ble_eq_true rfl)) dX5_trainsUntil_60 ⟨Nat.le_of_ble_eq_true rfl, Nat.le_of_ble_eq_true rfl⟩) rfl 1 rfl (by decide) (by decide) (fun H locs hP hS => ?_)
            refine lv_istore (lv' := [(5, .int o45), (0, .ref (g b)), (1, .int p0), (2, .int p1), (3, .int p2), (4, .int v37)]) hx hb dX5_trainsUntil_63 hl (by decide) rfl (fun ls hl => ?_)
            obtain ⟨x46, ex46⟩ : ∃ z : Int32, z = v37 + (1 : Int32) := ⟨_, rfl⟩
            replace hf := nm_i hf ex46
            refine lv_iinc (v := x46) (lv' := [(4, .int x46), (5, .int o45), (0, .ref (g b)), (1, .int p0), (2, .int p1), (3, .int p2)]) hx hb dX5_trainsUntil_65 hl (k := 5) rfl (by rw [ex46]; rfl) (by decide) rfl (fun ls hl => ?_)
            refine lv_goto (tgt := 37) hx hb dX5_trainsUntil_68 (by decide) ?_
            exact ih _ _ _ _ hf _ _ _ hP hS (lv_sub hl [2, 3, 4, 5, 0, 1] rfl) kx
      refine hL37 fu _ _ _ _ hz41 _ _ _ hP hS (lv_sub hl [2, 3, 4, 5, 1, 0] rfl) (fun H locs ls hP hS hl => ?_)
      refine lv_aload_n hx hb dX5_trainsUntil_71 rfl (lv_at hl 0 rfl) ?_
      obtain ⟨o47, ho47, hf⟩ := bd_i hf
      refine cl_v [0] [] [wM cT g b o47] hP (va_D_adr hD rfl) hA hS (va_runV (As := []) (rest := []) ⟨hx, hb, hml, hown, hts⟩ (c_X5_putBack l D cT g b fu z41.2.2  o47 ho47 _) (cwV 0 hts gX5_trainsUntil_X5_putBack rfl rfl rfl (by decide +kernel) ⟨Nat.le_of_ble_eq_true rfl, Nat.le_of_ble_eq_true rfl⟩) ⟨PRE_blind, va_recv hK hP (ci := 5) (q0 := 0) rfl rfl, PRE_ok [0] (by decide) hP (va_D_adr hD rfl) hA hS hK hN hZ⟩ rfl rfl hl.1 rfl (lv_room (Nat.le_of_ble_eq_true rfl)) dX5_trainsUntil_72 ⟨Nat.le_of_ble_eq_true rfl, Nat.le_of_ble_eq_true rfl⟩) rfl 1 rfl (by decide) (by decide) (fun H locs hP hS => ?_)
      refine lv_iload hx hb dX5_trainsUntil_75 (lv_at hl 3 rfl) ?_
      refine lv_iload_n hx hb dX5_trainsUntil_77 rfl (lv_at hl 1 rfl) ?_
      refine lv_icmp_ge (tgt := 86) hx hb dX5_trainsUntil_78 (by decide) (fun c48 => ?_) (fun c48 => ?_)
      · replace hf := it_t hf c48
        refine lv_iload hx hb dX5_trainsUntil_86 (lv_at hl 2 rfl) ?_
        obtain rfl := Option.some.inj hf
        subst hQ
        exact en_i hx hb hr hP hS hlocks dX5_trainsUntil_88
      · replace hf := it_f hf c48
        refine lv_ldc (v := -100009) hx hb hown (hts (.constant RX5 165 (-100009)) (List.mem_of_getElem? (i := 2) rfl)) dX5_trainsUntil_81 ?_
        refine lv_goto (tgt := 88) hx hb dX5_trainsUntil_83 (by decide) ?_
        obtain rfl := Option.some.inj hf
        subst hQ
        exact en_i hx hb hr hP hS hlocks dX5_trainsUntil_88
    · replace hf := it_f hf (not_not_intro c25)
      refine lv_ldc (v := -100001) hx hb hown (hts (.constant RX5 68 (-100001)) (List.mem_of_getElem? (i := 1) rfl)) dX5_trainsUntil_17 ?_
      obtain rfl := Option.some.inj hf
      subst hQ
      exact en_i hx hb hr hP hS hlocks dX5_trainsUntil_19
theorem iw_X5_voidsWith_X5 : ∀ w ∈ u_ws RX5 TX5 12, w ∈ wsX5_voidsWith := by decide +kernel
def lb_X5_voidsWith_7 (fu : Nat) (p0 : Int32) (p1 : Int32) (p2 : Int32) (rec : Int32 → TM → Option (TM)) (v59 : Int32) (u60 : TM) : Option (TM) :=
nm (p0 + p1) fun (x63 : Int32) =>
if x63 ≤ v59 then (
some (u60)
)
else (
bd (f_X5_liftOf fu u60 v59 p2) fun (o65 : Int32) =>
nm ((41 : Int32) + v59) fun (x66 : Int32) =>
ix x66 281 <|
nm ((M_ss u60) x66.toNatClampNeg) fun (x68 : Int32) =>
nm (M_ss u60 8) fun (x69 : Int32) =>
jn (fun (x71 : Int32) =>
nm (x68 + x71) fun (x77 : Int32) =>
ix x66 281 <|
nm (M_ss_ u60 (upd (M_ss u60) x66.toNatClampNeg x77)) fun (u79 : TM) =>
nm (v59 + (1 : Int32)) fun (x80 : Int32) =>
rec x80 u79
) fun K53_76 =>
if o65 < x69 then (
K53_76 ((0 : Int32))
)
else (
K53_76 o65
)
)

def lf_X5_voidsWith_7 (fu : Nat) (p0 : Int32) (p1 : Int32) (p2 : Int32) : Nat → Int32 → TM → Option (TM) := lq_2 (lb_X5_voidsWith_7 fu p0 p1 p2)
def lb_X5_voidsWith_71 (fu : Nat) (o82 : TM) (rec : Int32 → Int32 → Option (Int32)) (v91 : Int32) (v92 : Int32) : Option (Int32) :=
nm (M_ss o82 0) fun (x95 : Int32) =>
if x95 ≤ v92 then (
some (v91)
)
else (
bd (f_X5_voidAt fu o82 v92) fun (o97 : Int32) =>
nm (v91 + o97) fun (x98 : Int32) =>
nm (v92 + (1 : Int32)) fun (x99 : Int32) =>
rec x98 x99
)

def lf_X5_voidsWith_71 (fu : Nat) (o82 : TM) : Nat → Int32 → Int32 → Option (Int32) := lq_2 (lb_X5_voidsWith_71 fu o82)
def f_X5_voidsWith (fu : Nat) (u_mo : TM) (p0 : Int32) (p1 : Int32) (p2 : Int32) : Option (Int32 × TM) :=
bd (f_X5_putAside fu u_mo ) fun (o38 : TM) =>
bd (lf_X5_voidsWith_7 fu p0 p1 p2 fu p0 o38) fun (z62 : TM) =>
bd (f_X5_laysRail fu z62 ) fun (o82 : TM) =>
bd (lf_X5_voidsWith_71 fu o82 fu ((0 : Int32)) ((0 : Int32))) fun (z94 : Int32) =>
bd (f_X5_putBack fu o82 ) fun (o100 : TM) =>
some (z94, o100)

abbrev rm_X5_voidsWith : Room := { frames := 2, cells := 0, slots := 0, locals := 43 }
set_option maxHeartbeats 4000000 in
set_option maxRecDepth 100000 in
theorem c_X5_voidsWith (l : Launch) (D : va_G) (cT : Nat → ClassId) (g : Nat → Nat) (b : Nat) (fu : Nat) (u_mo : TM) (p0 : Int32) (p1 : Int32) (p2 : Int32) (o : Int32 × TM) (hf : f_X5_voidsWith fu u_mo p0 p1 p2 = some o) (sz : Nat) : Met l yX5_voidsWith wsX5_voidsWith rm_X5_voidsWith (va_Pc [.ref (g b), .int p0, .int p1, .int p2] (PRE D cT sz (List.flatten [wM cT g b u_mo]))) (QI D o.1 (List.flatten [wM cT g b o.2]) (va_A (List.flatten [wM cT g b u_mo]) sz)) 0 0 (va_A (List.flatten [wM cT g b u_mo]) sz) := by
  refine Met.ofW (cc := cX5_voidsWith) (maxL := 6) (ret := (some .int)) (by decide) rfl ?_
  intro p e s m args below meth c s₁ B0 hml hv
  obtain ⟨hav, hsz, hP, hK, hD, hN, hZ⟩ := hv
  have hx := B0.exec
  have hb := B0.bytes
  have hr := B0.returns
  have hts := atoms_spec (ws := wsX5_voidsWith) B0.pre
  have hown : s.vm.findClass RX5 = some m.cls := findClass_of_methodNamed B0.named
  have hlocks := B0.notSynchronized
  subst hsz
  have hD := hD.self (sz := s.heap.size)
  have hA : ∀ q : Nat, s.heap.size ≤ q → va_A (List.flatten [wM cT g b u_mo]) s.heap.size q := fun q h => Or.inr h
  generalize va_A (List.flatten [wM cT g b u_mo]) s.heap.size = A at hD hZ hA ⊢
  have hS : va_S A s.heap s.heap [] := va_S.rf
  have hl := lv_entry ([.ref (g b), .int p0, .int p1, .int p2]) (n := 6) (Nat.le_of_ble_eq_true rfl)
  rw [hav]
  rw [lg_entry_eq]
  generalize (lg_sl ([.ref (g b), .int p0, .int p1, .int p2]) ++ List.replicate (6 - (lg_sl ([.ref (g b), .int p0, .int p1, .int p2])).length) Slot.unset).toArray = ls at hl ⊢
  have hl : lv_has ls 6 [(0, .ref (g b)), (1, .int p0), (2, .int p1), (3, .int p2)] := hl
  rw [← hav]
  generalize hQ : MQ below _ _ _ _ _ _ = Q
  show W p l e rm_X5_voidsWith s m args below meth c s.heap [] 0 0 Q (F0 m 0 ls [])
  unfold f_X5_voidsWith at hf
  refine lv_aload_n hx hb dX5_voidsWith_0 rfl (lv_at hl 0 rfl) ?_
  obtain ⟨o38, ho38, hf⟩ := bd_i hf
  refine cl_v [0] [] [wM cT g b o38] hP (va_D_adr hD rfl) hA hS (va_runV (As := []) (rest := []) ⟨hx, hb, hml, hown, hts⟩ (c_X5_putAside l D cT g b fu u_mo  o38 ho38 _) (cwV 0 hts gX5_voidsWith_X5_putAside rfl rfl rfl (by decide +kernel) ⟨Nat.le_of_ble_eq_true rfl, Nat.le_of_ble_eq_true rfl⟩) ⟨PRE_blind, va_recv hK hP (ci := 5) (q0 := 0) rfl rfl, PRE_ok [0] (by decide) hP (va_D_adr hD rfl) hA hS hK hN hZ⟩ rfl rfl hl.1 rfl (lv_room (Nat.le_of_ble_eq_true rfl)) dX5_voidsWith_1 ⟨Nat.le_of_ble_eq_true rfl, Nat.le_of_ble_eq_true rfl⟩) rfl 1 rfl (by decide) (by decide) (fun H locs hP hS => ?_)
  refine lv_iload_n hx hb dX5_voidsWith_4 rfl (lv_at hl 1 rfl) ?_
  refine lv_istore (lv' := [(4, .int p0), (0, .ref (g b)), (1, .int p0), (2, .int p1), (3, .int p2)]) hx hb dX5_voidsWith_5 hl (by decide) rfl (fun ls hl => ?_)
  obtain ⟨z62, hz62, hf⟩ := bd_i hf
  have hL7 : ∀ (n : Nat) (v59 : Int32) (u60 : TM) (z61 : TM), lf_X5_voidsWith_7 fu p0 p1 p2 n v59 u60 = some z61 → ∀ (H : Heap) (locs : List Loc) (ls : Array Slot), va_P D vwCl (List.flatten [wM cT g b u60]) H → va_S A s.heap H locs → lv_has ls 6 [(0, .ref (g b)), (1, .int p0), (2, .int p1), (3, .int p2), (4, .int v59)] → (∀ (H : Heap) (locs : List Loc) (ls : Array Slot), va_P D vwCl (List.flatten [wM cT g b z61]) H → va_S A s.heap H locs → lv_has ls 6 [(0, .ref (g b))] → W p l e rm_X5_voidsWith s m args below meth c H locs 0 0 Q (F0 m 61 ls [])) → W p l e rm_X5_voidsWith s m args below meth c H locs 0 0 Q (F0 m 7 ls []) := by
    refine lq_2_ind (F := lb_X5_voidsWith_7 fu p0 p1 p2) (fun rec ih v59 u60 z61 hf H locs ls hP hS hl kx => ?_)
    unfold lb_X5_voidsWith_7 at hf
    refine lv_iload hx hb dX5_voidsWith_7 (lv_at hl 4 rfl) ?_
    refine lv_iload_n hx hb dX5_voidsWith_9 rfl (lv_at hl 1 rfl) ?_
    refine lv_iload_n hx hb dX5_voidsWith_10 rfl (lv_at hl 2 rfl) ?_
    refine lv_iadd hx hb dX5_voidsWith_11 ?_
    refine lv_topi (fun x63 ex63 => ?_)
    replace hf := nm_i hf ex63
    refine lv_icmp_ge (tgt := 61) hx hb dX5_voidsWith_12 (by decide) (fun c64 => ?_) (fun c64 => ?_)
    · replace hf := it_t hf c64
      obtain rfl := Option.some.inj hf
      exact kx _ _ _ hP hS (lv_sub hl [0] rfl)
    · replace hf := it_f hf c64
      refine lv_aload_n hx hb dX5_voidsWith_15 rfl (lv_at hl 0 rfl) ?_
      refine lv_iload hx hb dX5_voidsWith_16 (lv_at hl 4 rfl) ?_
      refine lv_iload_n hx hb dX5_voidsWith_18 rfl (lv_at hl 3 rfl) ?_
      obtain ⟨o65, ho65, hf⟩ := bd_i hf
      refine cl_i [0] [] [wM cT g b u60] hP (va_D_adr hD rfl) hA hS (va_runV (As := [.int v59, .int p2]) (rest := []) ⟨hx, hb, hml, hown, hts⟩ (c_X5_liftOf l D cT g b fu u60 v59 p2 o65 ho65 _) (cwV 2 hts gX5_voidsWith_X5_liftOf rfl rfl rfl (by decide +kernel) ⟨Nat.le_of_ble_eq_true rfl, Nat.le_of_ble_eq_true rfl⟩) ⟨PRE_blind, va_recv hK hP (ci := 5) (q0 := 0) rfl rfl, PRE_ok [0] (by decide) hP (va_D_adr hD rfl) hA hS hK hN hZ⟩ rfl rfl hl.1 rfl (lv_room (Nat.le_of_ble_eq_true rfl)) dX5_voidsWith_19 ⟨Nat.le_of_ble_eq_true rfl, Nat.le_of_ble_eq_true rfl⟩) rfl 1 rfl (by decide) (by decide) (fun H locs hP hS => ?_)
      refine lv_istore (lv' := [(5, .int o65), (0, .ref (g b)), (1, .int p0), (2, .int p1), (3, .int p2), (4, .int v59)]) hx hb dX5_voidsWith_22 hl (by decide) rfl (fun ls hl => ?_)
      refine lv_aload_n hx hb dX5_voidsWith_24 rfl (lv_at hl 1 rfl) ?_
      refine va_get (ci := 5) (v := .ref (g (b + 1))) (C := RX5) (T := TX5) (N := 12) hx hb hts iw_X5_voidsWith_X5 hown hK hP 0 rfl rfl 0 (by decide) (hts (.fieldLink RX5 7 "BallastTrackModel" "s" "[I") (List.mem_of_getElem? (i := 1) rfl)) (fun _ h9 => h9) rfl dX5_voidsWith_25 ?_
      refine lv_bipush (v := 41) hx hb dX5_voidsWith_28 (by decide) ?_
      refine lv_iload hx hb dX5_voidsWith_30 (lv_at hl 5 rfl) ?_
      refine lv_iadd hx hb dX5_voidsWith_32 ?_
      refine lv_topi (fun x66 ex66 => ?_)
      replace hf := nm_i hf ex66
      refine lv_dup2_11 hx hb dX5_voidsWith_33 rfl rfl ?_
      obtain ⟨hi67, hf⟩ := ix_i hf
      refine va_iald hx hb hK hP 1 0 rfl rfl hi67 dX5_voidsWith_34 ?_
      refine lv_topi (fun x68 ex68 => ?_)
      replace hf := nm_i hf ex68
      refine lv_iload hx hb dX5_voidsWith_35 (lv_at hl 0 rfl) ?_
      refine lv_aload_n hx hb dX5_voidsWith_37 rfl (lv_at hl 1 rfl) ?_
      refine va_get (ci := 5) (v := .ref (g (b + 1))) (C := RX5) (T := TX5) (N := 12) hx hb hts iw_X5_voidsWith_X5 hown hK hP 0 rfl rfl 0 (by decide) (hts (.fieldLink RX5 7 "BallastTrackModel" "s" "[I") (List.mem_of_getElem? (i := 1) rfl)) (fun _ h9 => h9) rfl dX5_voidsWith_38 ?_
      refine lv_bipush (v := 8) hx hb dX5_voidsWith_41 (by decide) ?_
      refine va_iald hx hb hK hP 1 0 rfl rfl (by unfold vp_in; decide) dX5_voidsWith_43 ?_
      refine lv_topi (fun x69 ex69 => ?_)
      replace hf := nm_i hf ex69
      obtain ⟨K53_76, eK53_76, hf⟩ := jn_i hf
      have hK53_76 : ∀ (x71 : Int32) (H : Heap) (locs : List Loc) (ls : Array Slot), K53_76 x71 = some z61 → va_P D vwCl (List.flatten [wM cT g b u60]) H → va_S A s.heap H locs → lv_has ls 6 [(0, .ref (g b)), (1, .int p0), (2, .int p1), (3, .int p2), (4, .int v59)] → W p l e rm_X5_voidsWith s m args below meth c H locs 0 0 Q (F0 m 53 ls [.int x71, .int x68, .int x66, .ref (g (b + 1))]) := by
        intro x71 H locs ls hf hP hS hl
        rw [eK53_76] at hf
        refine lv_iadd hx hb dX5_voidsWith_53 ?_
        refine lv_topi (fun x77 ex77 => ?_)
        replace hf := nm_i hf ex77
        obtain ⟨hi78, hf⟩ := ix_i hf
        refine va_iast hx hb hK hP (va_D_adr hD rfl) hS 1 0 rfl rfl hi78 dX5_voidsWith_54 (fun H locs hP _ hS => ?_)
        obtain ⟨u79, eu79⟩ : ∃ z : TM, z = M_ss_ u60 (upd (M_ss u60) x66.toNatClampNeg x77) := ⟨_, rfl⟩
        replace hf := nm_i hf eu79
        have hP : va_P D vwCl (List.flatten [wM cT g b u79]) H := by rw [eu79]; exact hP
        obtain ⟨x80, ex80⟩ : ∃ z : Int32, z = v59 + (1 : Int32) := ⟨_, rfl⟩
        replace hf := nm_i hf ex80
        refine lv_iinc (v := x80) (lv' := [(4, .int x80), (0, .ref (g b)), (1, .int p0), (2, .int p1), (3, .int p2)]) hx hb dX5_voidsWith_55 hl (k := 4) rfl (by rw [ex80]; rfl) (by decide) rfl (fun ls hl => ?_)
        refine lv_goto (tgt := 7) hx hb dX5_voidsWith_58 (by decide) ?_
        exact ih _ _ _ hf _ _ _ hP hS (lv_sub hl [1, 2, 3, 4, 0] rfl) kx
      clear eK53_76
      refine lv_icmp_lt (tgt := 52) hx hb dX5_voidsWith_44 (by decide) (fun c81 => ?_) (fun c81 => ?_)
      · replace hf := it_t hf c81
        refine lv_iconst (v := 0) hx hb dX5_voidsWith_52 (by decide) ?_
        exact hK53_76 _ _ _ _ hf hP hS (lv_sub hl [1, 2, 3, 4, 5] rfl)
      · replace hf := it_f hf c81
        refine lv_iload hx hb dX5_voidsWith_47 (lv_at hl 0 rfl) ?_
        refine lv_goto (tgt := 53) hx hb dX5_voidsWith_49 (by decide) ?_
        exact hK53_76 _ _ _ _ hf hP hS (lv_sub hl [1, 2, 3, 4, 5] rfl)
  refine hL7 fu _ _ _ hz62 _ _ _ hP hS (lv_sub hl [1, 2, 3, 4, 0] rfl) (fun H locs ls hP hS hl => ?_)
  refine lv_aload_n hx hb dX5_voidsWith_61 rfl (lv_at hl 0 rfl) ?_
  obtain ⟨o82, ho82, hf⟩ := bd_i hf
  refine cl_v [0] [] [wM cT g b o82] hP (va_D_adr hD rfl) hA hS (va_runV (As := []) (rest := []) ⟨hx, hb, hml, hown, hts⟩ (c_X5_laysRail l D cT g b fu z62  o82 ho82 _) (cwV 0 hts gX5_voidsWith_X5_laysRail rfl rfl rfl (by decide +kernel) ⟨Nat.le_of_ble_eq_true rfl, Nat.le_of_ble_eq_true rfl⟩) ⟨PRE_blind, va_recv hK hP (ci := 5) (q0 := 0) rfl rfl, PRE_ok [0] (by decide) hP (va_D_adr hD rfl) hA hS hK hN hZ⟩ rfl rfl hl.1 rfl (lv_room (Nat.le_of_ble_eq_true rfl)) dX5_voidsWith_62 ⟨Nat.le_of_ble_eq_true rfl, Nat.le_of_ble_eq_true rfl⟩) rfl 1 rfl (by decide) (by decide) (fun H locs hP hS => ?_)
  refine lv_iconst (v := 0) hx hb dX5_voidsWith_65 (by decide) ?_
  refine lv_istore (lv' := [(4, .int ((0 : Int32))), (0, .ref (g b))]) hx hb dX5_voidsWith_66 hl (by decide) rfl (fun ls hl => ?_)
  refine lv_iconst (v := 0) hx hb dX5_voidsWith_68 (by decide) ?_
  refine lv_istore (lv' := [(5, .int ((0 : Int32))), (4, .int ((0 : Int32))), (0, .ref (g b))]) hx hb dX5_voidsWith_69 hl (by decide) rfl (fun ls hl => ?_)
  obtain ⟨z94, hz94, hf⟩ := bd_i hf
  have hL71 : ∀ (n : Nat) (v91 : Int32) (v92 : Int32) (z93 : Int32), lf_X5_voidsWith_71 fu o82 n v91 v92 = some z93 → ∀ (H : Heap) (locs : List Loc) (ls : Array Slot), va_P D vwCl (List.flatten [wM cT g b o82]) H → va_S A s.heap H locs → lv_has ls 6 [(0, .ref (g b)), (4, .int v91), (5, .int v92)] → (∀ (H : Heap) (locs : List Loc) (ls : Array Slot), va_P D vwCl (List.flatten [wM cT g b o82]) H → va_S A s.heap H locs → lv_has ls 6 [(0, .ref (g b)), (4, .int z93)] → W p l e rm_X5_voidsWith s m args below meth c H locs 0 0 Q (F0 m 99 ls [])) → W p l e rm_X5_voidsWith s m args below meth c H locs 0 0 Q (F0 m 71 ls []) := by
    refine lq_2_ind (F := lb_X5_voidsWith_71 fu o82) (fun rec ih v91 v92 z93 hf H locs ls hP hS hl kx => ?_)
    unfold lb_X5_voidsWith_71 at hf
    refine lv_iload hx hb dX5_voidsWith_71 (lv_at hl 2 rfl) ?_
    refine lv_aload_n hx hb dX5_voidsWith_73 rfl (lv_at hl 0 rfl) ?_
    refine va_get (ci := 5) (v := .ref (g (b + 1))) (C := RX5) (T := TX5) (N := 12) hx hb hts iw_X5_voidsWith_X5 hown hK hP 0 rfl rfl 0 (by decide) (hts (.fieldLink RX5 7 "BallastTrackModel" "s" "[I") (List.mem_of_getElem? (i := 1) rfl)) (fun _ h9 => h9) rfl dX5_voidsWith_74 ?_
    refine lv_iconst (v := 0) hx hb dX5_voidsWith_77 (by decide) ?_
    refine va_iald hx hb hK hP 1 0 rfl rfl (by unfold vp_in; decide) dX5_voidsWith_78 ?_
    refine lv_topi (fun x95 ex95 => ?_)
    replace hf := nm_i hf ex95
    refine lv_icmp_ge (tgt := 99) hx hb dX5_voidsWith_79 (by decide) (fun c96 => ?_) (fun c96 => ?_)
    · replace hf := it_t hf c96
      obtain rfl := Option.some.inj hf
      exact kx _ _ _ hP hS (lv_sub hl [0, 1] rfl)
    · replace hf := it_f hf c96
      refine lv_iload hx hb dX5_voidsWith_82 (lv_at hl 1 rfl) ?_
      refine lv_aload_n hx hb dX5_voidsWith_84 rfl (lv_at hl 0 rfl) ?_
      refine lv_iload hx hb dX5_voidsWith_85 (lv_at hl 2 rfl) ?_
      obtain ⟨o97, ho97, hf⟩ := bd_i hf
      refine cl_i [0] [] [wM cT g b o82] hP (va_D_adr hD rfl) hA hS (va_runV (As := [.int v92]) (rest := [.int v91]) ⟨hx, hb, hml, hown, hts⟩ (c_X5_voidAt l D cT g b fu o82 v92 o97 ho97 _) (cwV 1 hts gX5_voidsWith_X5_voidAt rfl rfl rfl (by decide +kernel) ⟨Nat.le_of_ble_eq_true rfl, Nat.le_of_ble_eq_true rfl⟩) ⟨PRE_blind, va_recv hK hP (ci := 5) (q0 := 0) rfl rfl, PRE_ok [0] (by decide) hP (va_D_adr hD rfl) hA hS hK hN hZ⟩ rfl rfl hl.1 rfl (lv_room (Nat.le_of_ble_eq_true rfl)) dX5_voidsWith_87 ⟨Nat.le_of_ble_eq_true rfl, Nat.le_of_ble_eq_true rfl⟩) rfl 1 rfl (by decide) (by decide) (fun H locs hP hS => ?_)
      refine lv_iadd hx hb dX5_voidsWith_90 ?_
      refine lv_topi (fun x98 ex98 => ?_)
      replace hf := nm_i hf ex98
      refine lv_istore (lv' := [(4, .int x98), (0, .ref (g b)), (5, .int v92)]) hx hb dX5_voidsWith_91 hl (by decide) rfl (fun ls hl => ?_)
      obtain ⟨x99, ex99⟩ : ∃ z : Int32, z = v92 + (1 : Int32) := ⟨_, rfl⟩
      replace hf := nm_i hf ex99
      refine lv_iinc (v := x99) (lv' := [(5, .int x99), (4, .int x98), (0, .ref (g b))]) hx hb dX5_voidsWith_93 hl (k := 2) rfl (by rw [ex99]; rfl) (by decide) rfl (fun ls hl => ?_)
      refine lv_goto (tgt := 71) hx hb dX5_voidsWith_96 (by decide) ?_
      exact ih _ _ _ hf _ _ _ hP hS (lv_sub hl [2, 1, 0] rfl) kx
  refine hL71 fu _ _ _ hz94 _ _ _ hP hS (lv_sub hl [2, 1, 0] rfl) (fun H locs ls hP hS hl => ?_)
  refine lv_aload_n hx hb dX5_voidsWith_99 rfl (lv_at hl 0 rfl) ?_
  obtain ⟨o100, ho100, hf⟩ := bd_i hf
  refine cl_v [0] [] [wM cT g b o100] hP (va_D_adr hD rfl) hA hS (va_runV (As := []) (rest := []) ⟨hx, hb, hml, hown, hts⟩ (c_X5_putBack l D cT g b fu o82  o100 ho100 _) (cwV 0 hts gX5_voidsWith_X5_putBack rfl rfl rfl (by decide +kernel) ⟨Nat.le_of_ble_eq_true rfl, Nat.le_of_ble_eq_true rfl⟩) ⟨PRE_blind, va_recv hK hP (ci := 5) (q0 := 0) rfl rfl, PRE_ok [0] (by decide) hP (va_D_adr hD rfl) hA hS hK hN hZ⟩ rfl rfl hl.1 rfl (lv_room (Nat.le_of_ble_eq_true rfl)) dX5_voidsWith_100 ⟨Nat.le_of_ble_eq_true rfl, Nat.le_of_ble_eq_true rfl⟩) rfl 1 rfl (by decide) (by decide) (fun H locs hP hS => ?_)
  refine lv_iload hx hb dX5_voidsWith_103 (lv_at hl 1 rfl) ?_
  obtain rfl := Option.some.inj hf
  subst hQ
  exact en_i hx hb hr hP hS hlocks dX5_voidsWith_105
