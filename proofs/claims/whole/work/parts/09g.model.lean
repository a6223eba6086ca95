theorem iw_X5_rail_X5 : ∀ w ∈ u_ws RX5 TX5 12, w ∈ wsX5_rail := by decide +kernel
def lb_X5_rail_38 (fu : Nat)  (rec : Int32 → TM → Option (TM)) (v116 : Int32) (u117 : TM) : Option (TM) :=
ix ((0 : Int32)) 281 <|
nm ((M_ss u117) ((0 : Int32)).toNatClampNeg) fun (x121 : Int32) =>
if x121 ≤ v116 then (
some (u117)
)
else (
jn (fun (x136 : Int32) =>
ix v116 60 <|
nm (M_ra_ u117 (upd (M_ra u117) v116.toNatClampNeg x136)) fun (u142 : TM) =>
nm (v116 + (1 : Int32)) fun (x143 : Int32) =>
rec x143 u142
) fun K94_140 =>
if ¬ v116 = 0 then (
nm ((41 : Int32) + v116) fun (x145 : Int32) =>
ix x145 281 <|
nm ((M_ss u117) x145.toNatClampNeg) fun (x147 : Int32) =>
nm (v116 - (1 : Int32)) fun (x148 : Int32) =>
ix x148 60 <|
nm ((M_ra u117) x148.toNatClampNeg) fun (x150 : Int32) =>
ix ((1 : Int32)) 281 <|
nm ((M_ss u117) ((1 : Int32)).toNatClampNeg) fun (x152 : Int32) =>
nm (x150 - x152) fun (x153 : Int32) =>
bd (f_X5_greater fu  x147 x153) fun (o154 : Int32) =>
K94_140 o154
)
else (
ix ((41 : Int32)) 281 <|
nm ((M_ss u117) ((41 : Int32)).toNatClampNeg) fun (x156 : Int32) =>
K94_140 x156
)
)

def lf_X5_rail_38 (fu : Nat)  : Nat → Int32 → TM → Option (TM) := lq_2 (lb_X5_rail_38 fu )
def lb_X5_rail_110 (fu : Nat)  (rec : Int32 → TM → Option (TM)) (v175 : Int32) (u176 : TM) : Option (TM) :=
if v175 < 0 then (
some (u176)
)
else (
ix v175 60 <|
nm ((M_ra u176) v175.toNatClampNeg) fun (x181 : Int32) =>
nm (v175 + (1 : Int32)) fun (x182 : Int32) =>
ix x182 60 <|
nm ((M_ra u176) x182.toNatClampNeg) fun (x184 : Int32) =>
ix ((1 : Int32)) 281 <|
nm ((M_ss u176) ((1 : Int32)).toNatClampNeg) fun (x186 : Int32) =>
nm (x184 - x186) fun (x187 : Int32) =>
bd (f_X5_greater fu  x181 x187) fun (o188 : Int32) =>
ix v175 60 <|
nm (M_ra_ u176 (upd (M_ra u176) v175.toNatClampNeg o188)) fun (u190 : TM) =>
nm (v175 + (-1 : Int32)) fun (x191 : Int32) =>
rec x191 u190
)

def lf_X5_rail_110 (fu : Nat)  : Nat → Int32 → TM → Option (TM) := lq_2 (lb_X5_rail_110 fu )
def f_X5_rail (fu : Nat) (u_mo : TM) (p0 : Int32) (p1 : Int32) : Option (Int32 × TM) :=
bd (f_X5_isSleeper fu u_mo p0) fun (o73 : Bool) =>
if bI o73 = 0 then (
some ((-100001 : Int32), u_mo)
)
else (
bd (f_X5_in fu  p1 ((0 : Int32)) ((1 : Int32))) fun (o75 : Bool) =>
if ¬ bI o75 = 0 then (
if ¬ p1 = (1 : Int32) then (
bd (lf_X5_rail_38 fu  fu ((0 : Int32)) u_mo) fun (z119 : TM) =>
ix ((0 : Int32)) 281 <|
nm ((M_ss z119) ((0 : Int32)).toNatClampNeg) fun (x158 : Int32) =>
nm (x158 - (2 : Int32)) fun (x159 : Int32) =>
bd (lf_X5_rail_110 fu  fu x159 z119) fun (z178 : TM) =>
ix p0 60 <|
nm ((M_ra z178) p0.toNatClampNeg) fun (x193 : Int32) =>
some (x193, z178)
)
else (
bd (f_X5_laysRail fu u_mo ) fun (o194 : TM) =>
ix p0 60 <|
nm ((M_ra o194) p0.toNatClampNeg) fun (x196 : Int32) =>
some (x196, o194)
)
)
else (
some ((-100001 : Int32), u_mo)
)
)

abbrev rm_X5_rail : Room := { frames := 2, cells := 0, slots := 0, locals := 43 }
set_option maxHeartbeats 4000000 in
set_option maxRecDepth 100000 in
theorem c_X5_rail (l : Launch) (D : va_G) (cT : Nat → ClassId) (g : Nat → Nat) (b : Nat) (fu : Nat) (u_mo : TM) (p0 : Int32) (p1 : Int32) (o : Int32 × TM) (hf : f_X5_rail fu u_mo p0 p1 = some o) (sz : Nat) : Met l yX5_rail wsX5_rail rm_X5_rail (va_Pc [.ref (g b), .int p0, .int p1] (PRE D cT sz (List.flatten [wM cT g b u_mo]))) (QI D o.1 (List.flatten [wM cT g b o.2]) (va_A (List.flatten [wM cT g b u_mo]) sz)) 0 0 (va_A (List.flatten [wM cT g b u_mo]) sz) := by
  refine Met.ofW (cc := cX5_rail) (maxL := 4) (ret := (some .int)) (by decide) rfl ?_
  intro p e s m args below meth c s₁ B0 hml hv
  obtain ⟨hav, hsz, hP, hK, hD, hN, hZ⟩ := hv
  have hx := B0.exec
  have hb := B0.bytes
  have hr := B0.returns
  have hts := atoms_spec (ws := wsX5_rail) B0.pre
  have hown : s.vm.findClass RX5 = some m.cls := findClass_of_methodNamed B0.named
  have hlocks := B0.notSynchronized
  subst hsz
  have hD := hD.self (sz := s.heap.size)
  have hA : ∀ q : Nat, s.heap.size ≤ q → va_A (List.flatten [wM cT g b u_mo]) s.heap.size q := fun q h => Or.inr h
  generalize va_A (List.flatten [wM cT g b u_mo]) s.heap.size = A at hD hZ hA ⊢
  have hS : va_S A s.heap s.heap [] := va_S.rf
  have hl := lv_entry ([.ref (g b), .int p0, .int p1]) (n := 4) (Nat.le_of_ble_eq_true rfl)
  rw [hav]
  rw [lg_entry_eq]
  generalize (lg_sl ([.ref (g b), .int p0, .int p1]) ++ List.replicate (4 - (lg_sl ([.ref (g b), .int p0, .int p1])).length) Slot.unset).toArray = ls at hl ⊢
  have hl : lv_has ls 4 [(0, .ref (g b)), (1, .int p0), (2, .int p1)] := hl
  rw [← hav]
  generalize hQ : MQ below _ _ _ _ _ _ = Q
  show W p l e rm_X5_rail s m args below meth c s.heap [] 0 0 Q (F0 m 0 ls [])
  unfold f_X5_rail at hf
  refine lv_aload_n hx hb dX5_rail_0 rfl (lv_at hl 0 rfl) ?_
  refine lv_iload_n hx hb dX5_rail_1 rfl (lv_at hl 1 rfl) ?_
  obtain ⟨o73, ho73, hf⟩ := bd_i hf
  refine cl_i [0] [] [wM cT g b u_mo] hP (va_D_adr hD rfl) hA hS (va_runV (As := [.int p0]) (rest := []) ⟨hx, hb, hml, hown, hts⟩ (c_X5_isSleeper l D cT g b fu u_mo p0 o73 ho73 _) (cwV 1 hts gX5_rail_X5_isSleeper rfl rfl rfl (by decide +kernel) ⟨Nat.le_of_ble_eq_true rfl, Nat.le_of_ble_eq_true rfl⟩) ⟨PRE_blind, va_recv hK hP (ci := 5) (q0 := 0) rfl rfl, PRE_ok [0] (by decide) hP (va_D_adr hD rfl) hA hS hK hN hZ⟩ rfl rfl hl.1 rfl (lv_room (Nat.le_of_ble_eq_true rfl)) dX5_rail_2 ⟨Nat.le_of_ble_eq_true rfl, Nat.le_of_ble_eq_true rfl⟩) rfl 1 rfl (by decide) (by decide) (fun H locs hP hS => ?_)
  refine lv_if_eq (tgt := 17) hx hb dX5_rail_5 (by decide) (fun c74 => ?_) (fun c74 => ?_)
  · replace hf := it_t hf c74
    refine lv_ldc (v := -100001) hx hb hown (hts (.constant RX5 68 (-100001)) (List.mem_of_getElem? (i := 1) rfl)) dX5_rail_17 ?_
    obtain rfl := Option.some.inj hf
    subst hQ
    exact en_i hx hb hr hP hS hlocks dX5_rail_19
  · replace hf := it_f hf c74
    refine lv_iload_n hx hb dX5_rail_8 rfl (lv_at hl 2 rfl) ?_
    refine lv_iconst (v := 0) hx hb dX5_rail_9 (by decide) ?_
    refine lv_iconst (v := 1) hx hb dX5_rail_10 (by decide) ?_
    obtain ⟨o75, ho75, hf⟩ := bd_i hf
    refine cl_i [] [0] [wM cT g b u_mo] hP (va_D_adr hD rfl) hA hS (va_runS (As := [.int p1, .int ((0 : Int32)), .int ((1 : Int32))]) (rest := []) ⟨hx, hb, hml, hown, hts⟩ (c_X5_in l D cT g  fu  p1 ((0 : Int32)) ((1 : Int32)) o75 ho75 _) (va_cwS 3 hts gX5_rail_X5_in rfl rfl rfl (by decide +kernel) ⟨Nat.le_of_ble_eq_true rfl, Nat.le_of_ble_eq_true rfl⟩) ⟨PRE_blind, PRE_ok [] (by decide) hP (va_D_adr hD rfl) hA hS hK hN hZ⟩ rfl rfl hl.1 rfl (lv_room (Nat.le_of_ble_eq_true rfl)) dX5_rail_11 ⟨Nat.le_of_ble_eq_true rfl, Nat.le_of_ble_eq_true rfl⟩) rfl 1 rfl (by decide) (by decide) (fun H locs hP hS => ?_)
    refine lv_if_ne (tgt := 20) hx hb dX5_rail_14 (by decide) (fun c76 => ?_) (fun c76 => ?_)
    · replace hf := it_t hf c76
      refine lv_iload_n hx hb dX5_rail_20 rfl (lv_at hl 2 rfl) ?_
      refine lv_iconst (v := 1) hx hb dX5_rail_21 (by decide) ?_
      refine lv_icmp_ne (tgt := 36) hx hb dX5_rail_22 (by decide) (fun c77 => ?_) (fun c77 => ?_)
      · replace hf := it_t hf c77
        refine lv_iconst (v := 0) hx hb dX5_rail_36 (by decide) ?_
        refine lv_istore_n (lv' := [(3, .int ((0 : Int32))), (0, .ref (g b)), (1, .int p0), (2, .int p1)]) hx hb dX5_rail_37 rfl hl (by decide) rfl (fun ls hl => ?_)
        obtain ⟨z119, hz119, hf⟩ := bd_i hf
        have hL38 : ∀ (n : Nat) (v116 : Int32) (u117 : TM) (z118 : TM), lf_X5_rail_38 fu  n v116 u117 = some z118 → ∀ (H : Heap) (locs : List Loc) (ls : Array Slot), va_P D vwCl (List.flatten [wM cT g b u117]) H → va_S A s.heap H locs → lv_has ls 4 [(0, .ref (g b)), (1, .int p0), (3, .int v116)] → (∀ (H : Heap) (locs : List Loc) (ls : Array Slot), va_P D vwCl (List.flatten [wM cT g b z118]) H → va_S A s.heap H locs → lv_has ls 4 [(0, .ref (g b)), (1, .int p0)] → W p l e rm_X5_rail s m args below meth c H locs 0 0 Q (F0 m 101 ls [])) → W p l e rm_X5_rail s m args below meth c H locs 0 0 Q (F0 m 38 ls []) := by
          refine lq_2_ind (F := lb_X5_rail_38 fu ) (fun rec ih v116 u117 z118 hf H locs ls hP hS hl kx => ?_)
          unfold lb_X5_rail_38 at hf
          refine lv_iload_n hx hb dX5_rail_38 rfl (lv_at hl 2 rfl) ?_
          refine lv_aload_n hx hb dX5_rail_39 rfl (lv_at hl 0 rfl) ?_
          refine va_get (ci := 5) (v := .ref (g (b + 1))) (C := RX5) (T := TX5) (N := 12) hx hb hts iw_X5_rail_X5 hown hK hP 0 rfl rfl 0 (by decide) (hts (.fieldLink RX5 7 "BallastTrackModel" "s" "[I") (List.mem_of_getElem? (i := 3) rfl)) (fun _ h9 => h9) rfl dX5_rail_40 ?_
          refine lv_iconst (v := 0) hx hb dX5_rail_43 (by decide) ?_
          obtain ⟨hi120, hf⟩ := ix_i hf
          refine va_iald hx hb hK hP 1 0 rfl rfl hi120 dX5_rail_44 ?_
          refine lv_topi (fun x121 ex121 => ?_)
          replace hf := nm_i hf ex121
          refine lv_icmp_ge (tgt := 101) hx hb dX5_rail_45 (by decide) (fun c122 => ?_) (fun c122 => ?_)
          · replace hf := it_t hf c122
            obtain rfl := Option.some.inj hf
            exact kx _ _ _ hP hS (lv_sub hl [0, 1] rfl)
          · replace hf := it_f hf c122
            refine lv_aload_n hx hb dX5_rail_48 rfl (lv_at hl 0 rfl) ?_
            refine va_get (ci := 5) (v := .ref (g (b + 6))) (C := RX5) (T := TX5) (N := 12) hx hb hts iw_X5_rail_X5 hown hK hP 0 rfl rfl 8 (by decide) (hts (.fieldLink RX5 26 "BallastTrackModel" "rail" "[I") (List.mem_of_getElem? (i := 2) rfl)) (fun _ h9 => h9) rfl dX5_rail_49 ?_
            refine lv_iload_n hx hb dX5_rail_52 rfl (lv_at hl 2 rfl) ?_
            refine lv_iload_n hx hb dX5_rail_53 rfl (lv_at hl 2 rfl) ?_
            obtain ⟨K94_140, eK94_140, hf⟩ := jn_i hf
            have hK94_140 : ∀ (x136 : Int32) (H : Heap) (locs : List Loc) (ls : Array Slot), K94_140 x136 = some z118 → va_P D vwCl (List.flatten [wM cT g b u117]) H → va_S A s.heap H locs → lv_has ls 4 [(0, .ref (g b)), (1, .int p0), (3, .int v116)] → W p l e rm_X5_rail s m args below meth c H locs 0 0 Q (F0 m 94 ls [.int x136, .int v116, .ref (g (b + 6))]) := by
              intro x136 H locs ls hf hP hS hl
              rw [eK94_140] at hf
              obtain ⟨hi141, hf⟩ := ix_i hf
              refine va_iast hx hb hK hP (va_D_adr hD rfl) hS 6 0 rfl rfl hi141 dX5_rail_94 (fun H locs hP _ hS => ?_)
              obtain ⟨u142, eu142⟩ : ∃ z : TM, z = M_ra_ u117 (upd (M_ra u117) v116.toNatClampNeg x136) := ⟨_, rfl⟩
              replace hf := nm_i hf eu142
              have hP : va_P D vwCl (List.flatten [wM cT g b u142]) H := by rw [eu142]; exact hP
              obtain ⟨x143, ex143⟩ : ∃ z : Int32, z = v116 + (1 : Int32) := ⟨_, rfl⟩
              replace hf := nm_i hf ex143
              refine lv_iinc (v := x143) (lv' := [(3, .int x143), (0, .ref (g b)), (1, .int p0)]) hx hb dX5_rail_95 hl (k := 2) rfl (by rw [ex143]; rfl) (by decide) rfl (fun ls hl => ?_)
              refine lv_goto (tgt := 38) hx hb dX5_rail_98 (by decide) ?_
              exact ih _ _ _ hf _ _ _ hP hS (lv_sub hl [1, 2, 0] rfl) kx
            clear eK94_140
            refine lv_if_ne (tgt := 67) hx hb dX5_rail_54 (by decide) (fun c144 => ?_) (fun c144 => ?_)
            · replace hf := it_t hf c144
              refine lv_aload_n hx hb dX5_rail_67 rfl (lv_at hl 0 rfl) ?_
              refine va_get (ci := 5) (v := .ref (g (b + 1))) (C := RX5) (T := TX5) (N := 12) hx hb hts iw_X5_rail_X5 hown hK hP 0 rfl rfl 0 (by decide) (hts (.fieldLink RX5 7 "BallastTrackModel" "s" "[I") (List.mem_of_getElem? (i := 3) rfl)) (fun _ h9 => h9) rfl dX5_rail_68 ?_
              refine lv_bipush (v := 41) hx hb dX5_rail_71 (by decide) ?_
              refine lv_iload_n hx hb dX5_rail_73 rfl (lv_at hl 2 rfl) ?_
              refine lv_iadd hx hb dX5_rail_74 ?_
              refine lv_topi (fun x145 ex145 => ?_)
              replace hf := nm_i hf ex145
              obtain ⟨hi146, hf⟩ := ix_i hf
              refine va_iald hx hb hK hP 1 0 rfl rfl hi146 dX5_rail_75 ?_
              refine lv_topi (fun x147 ex147 => ?_)
              replace hf := nm_i hf ex147
              refine lv_aload_n hx hb dX5_rail_76 rfl (lv_at hl 0 rfl) ?_
              refine va_get (ci := 5) (v := .ref (g (b + 6))) (C := RX5) (T := TX5) (N := 12) hx hb hts iw_X5_rail_X5 hown hK hP 0 rfl rfl 8 (by decide) (hts (.fieldLink RX5 26 "BallastTrackModel" "rail" "[I") (List.mem_of_getElem? (i := 2) rfl)) (fun _ h9 => h9) rfl dX5_rail_77 ?_
              refine lv_iload_n hx hb dX5_rail_80 rfl (lv_at hl 2 rfl) ?_
              refine lv_iconst (v := 1) hx hb dX5_rail_81 (by decide) ?_
              refine lv_isub hx hb dX5_rail_82 ?_
              refine lv_topi (fun x148 ex148 => ?_)
              replace hf := nm_i hf ex148
              obtain ⟨hi149, hf⟩ := ix_i hf
              refine va_iald hx hb hK hP 6 0 rfl rfl hi149 dX5_rail_83 ?_
              refine lv_topi (fun x150 ex150 => ?_)
              replace hf := nm_i hf ex150
              refine lv_aload_n hx hb dX5_rail_84 rfl (lv_at hl 0 rfl) ?_
              refine va_get (ci := 5) (v := .ref (g (b + 1))) (C := RX5) (T := TX5) (N := 12) hx hb hts iw_X5_rail_X5 hown hK hP 0 rfl rfl 0 (by decide) (hts (.fieldLink RX5 7 "BallastTrackModel" "s" "[I") (List.mem_of_getElem? (i := 3) rfl)) (fun _ h9 => h9) rfl dX5_rail_85 ?_
              refine lv_iconst (v := 1) hx hb dX5_rail_88 (by decide) ?_
              obtain ⟨hi151, hf⟩ := ix_i hf
              refine va_iald hx hb hK hP 1 0 rfl rfl hi151 dX5_rail_89 ?_
              refine lv_topi (fun x152 ex152 => ?_)
              replace hf := nm_i hf ex152
              refine lv_isub hx hb dX5_rail_90 ?_
              refine lv_topi (fun x153 ex153 => ?_)
              replace hf := nm_i hf ex153
              obtain ⟨o154, ho154, hf⟩ := bd_i hf
              refine cl_i [] [0] [wM cT g b u117] hP (va_D_adr hD rfl) hA hS (va_runS (As := [.int x147, .int x153]) (rest := [.int v116, .ref (g (b + 6))]) ⟨hx, hb, hml, hown, hts⟩ (c_X5_greater l D cT g  fu  x147 x153 o154 ho154 _) (va_cwS 2 hts gX5_rail_X5_greater rfl rfl rfl (by decide +kernel) ⟨Nat.le_of_ble_eq_true rfl, Nat.le_of_ble_eq_true rfl⟩) ⟨PRE_blind, PRE_ok [] (by decide) hP (va_D_adr hD rfl) hA hS hK hN hZ⟩ rfl rfl hl.1 rfl (lv_room (Nat.le_of_ble_eq_true rfl)) dX5_rail_91 ⟨Nat.le_of_ble_eq_true rfl, Nat.le_of_ble_eq_true rfl⟩) rfl 1 rfl (by decide) (by decide) (fun H locs hP hS => ?_)
              exact hK94_140 _ _ _ _ hf hP hS (lv_sub hl [0, 1, 2] rfl)
            · replace hf := it_f hf (not_not_intro c144)
              refine lv_aload_n hx hb dX5_rail_57 rfl (lv_at hl 0 rfl) ?_
              refine va_get (ci := 5) (v := .ref (g (b + 1))) (C := RX5) (T := TX5) (N := 12) hx hb hts iw_X5_rail_X5 hown hK hP 0 rfl rfl 0 (by decide) (hts (.fieldLink RX5 7 "BallastTrackModel" "s" "[I") (List.mem_of_getElem? (i := 3) rfl)) (fun _ h9 => h9) rfl dX5_rail_58 ?_
              refine lv_bipush (v := 41) hx hb dX5_rail_61 (by decide) ?_
              obtain ⟨hi155, hf⟩ := ix_i hf
              refine va_iald hx hb hK hP 1 0 rfl rfl hi155 dX5_rail_63 ?_
              refine lv_topi (fun x156 ex156 => ?_)
              replace hf := nm_i hf ex156
              refine lv_goto (tgt := 94) hx hb dX5_rail_64 (by decide) ?_
              exact hK94_140 _ _ _ _ hf hP hS (lv_sub hl [0, 1, 2] rfl)
        refine hL38 fu _ _ _ hz119 _ _ _ hP hS (lv_sub hl [1, 2, 0] rfl) (fun H locs ls hP hS hl => ?_)
        refine lv_aload_n hx hb dX5_rail_101 rfl (lv_at hl 0 rfl) ?_
        refine va_get (ci := 5) (v := .ref (g (b + 1))) (C := RX5) (T := TX5) (N := 12) hx hb hts iw_X5_rail_X5 hown hK hP 0 rfl rfl 0 (by decide) (hts (.fieldLink RX5 7 "BallastTrackModel" "s" "[I") (List.mem_of_getElem? (i := 3) rfl)) (fun _ h9 => h9) rfl dX5_rail_102 ?_
        refine lv_iconst (v := 0) hx hb dX5_rail_105 (by decide) ?_
        obtain ⟨hi157, hf⟩ := ix_i hf
        refine va_iald hx hb hK hP 1 0 rfl rfl hi157 dX5_rail_106 ?_
        refine lv_topi (fun x158 ex158 => ?_)
        replace hf := nm_i hf ex158
        refine lv_iconst (v := 2) hx hb dX5_rail_107 (by decide) ?_
        refine lv_isub hx hb dX5_rail_108 ?_
        refine lv_topi (fun x159 ex159 => ?_)
        replace hf := nm_i hf ex159
        refine lv_istore_n (lv' := [(3, .int x159), (0, .ref (g b)), (1, .int p0)]) hx hb dX5_rail_109 rfl hl (by decide) rfl (fun ls hl => ?_)
        obtain ⟨z178, hz178, hf⟩ := bd_i hf
        have hL110 : ∀ (n : Nat) (v175 : Int32) (u176 : TM) (z177 : TM), lf_X5_rail_110 fu  n v175 u176 = some z177 → ∀ (H : Heap) (locs : List Loc) (ls : Array Slot), va_P D vwCl (List.flatten [wM cT g b u176]) H → va_S A s.heap H locs → lv_has ls 4 [(0, .ref (g b)), (1, .int p0), (3, .int v175)] → (∀ (H : Heap) (locs : List Loc) (ls : Array Slot), va_P D vwCl (List.flatten [wM cT g b z177]) H → va_S A s.heap H locs → lv_has ls 4 [(0, .ref (g b)), (1, .int p0)] → W p l e rm_X5_rail s m args below meth c H locs 0 0 Q (F0 m 150 ls [])) → W p l e rm_X5_rail s m args below meth c H locs 0 0 Q (F0 m 110 ls []) := by
          refine lq_2_ind (F := lb_X5_rail_110 fu ) (fun rec ih v175 u176 z177 hf H locs ls hP hS hl kx => ?_)
          unfold lb_X5_rail_110 at hf
          refine lv_iload_n hx hb dX5_rail_110 rfl (lv_at hl 2 rfl) ?_
          refine lv_if_lt (tgt := 150) hx hb dX5_rail_111 (by decide) (fun c179 => ?_) (fun c179 => ?_)
          · replace hf := it_t hf c179
            obtain rfl := Option.some.inj hf
            exact kx _ _ _ hP hS (lv_sub hl [0, 1] rfl)
          · replace hf := it_f hf c179
            refine lv_aload_n hx hb dX5_rail_114 rfl (lv_at hl 0 rfl) ?_
            refine va_get (ci := 5) (v := .ref (g (b + 6))) (C := RX5) (T := TX5) (N := 12) hx hb hts iw_X5_rail_X5 hown hK hP 0 rfl rfl 8 (by decide) (hts (.fieldLink RX5 26 "BallastTrackModel" "rail" "[I") (List.mem_of_getElem? (i := 2) rfl)) (fun _ h9 => h9) rfl dX5_rail_115 ?_
            refine lv_iload_n hx hb dX5_rail_118 rfl (lv_at hl 2 rfl) ?_
            refine lv_aload_n hx hb dX5_rail_119 rfl (lv_at hl 0 rfl) ?_
            refine va_get (ci := 5) (v := .ref (g (b + 6))) (C := RX5) (T := TX5) (N := 12) hx hb hts iw_X5_rail_X5 hown hK hP 0 rfl rfl 8 (by decide) (hts (.fieldLink RX5 26 "BallastTrackModel" "rail" "[I") (List.mem_of_getElem? (i := 2) rfl)) (fun _ h9 => h9) rfl dX5_rail_120 ?_
            refine lv_iload_n hx hb dX5_rail_123 rfl (lv_at hl 2 rfl) ?_
            obtain ⟨hi180, hf⟩ := ix_i hf
            refine va_iald hx hb hK hP 6 0 rfl rfl hi180 dX5_rail_124 ?_
            refine lv_topi (fun x181 ex181 => ?_)
            replace hf := nm_i hf ex181
            refine lv_aload_n hx hb dX5_rail_125 rfl (lv_at hl 0 rfl) ?_
            refine va_get (ci := 5) (v := .ref (g (b + 6))) (C := RX5) (T := TX5) (N := 12) hx hb hts iw_X5_rail_X5 hown hK hP 0 rfl rfl 8 (by decide) (hts (.fieldLink RX5 26 "BallastTrackModel" "rail" "[I") (List.mem_of_getElem? (i := 2) rfl)) (fun _ h9 => h9) rfl dX5_rail_126 ?_
            refine lv_iload_n hx hb dX5_rail_129 rfl (lv_at hl 2 rfl) ?_
            refine lv_iconst (v := 1) hx hb dX5_rail_130 (by decide) ?_
            refine lv_iadd hx hb dX5_rail_131 ?_
            refine lv_topi (fun x182 ex182 => ?_)
            replace hf := nm_i hf ex182
            obtain ⟨hi183, hf⟩ := ix_i hf
            refine va_iald hx hb hK hP 6 0 rfl rfl hi183 dX5_rail_132 ?_
            refine lv_topi (fun x184 ex184 => ?_)
            replace hf := nm_i hf ex184
            refine lv_aload_n hx hb dX5_rail_133 rfl (lv_at hl 0 rfl) ?_
            refine va_get (ci := 5) (v := .ref (g (b + 1))) (C := RX5) (T := TX5) (N := 12) hx hb hts iw_X5_rail_X5 hown hK hP 0 rfl rfl 0 (by decide) (hts (.fieldLink RX5 7 "BallastTrackModel" "s" "[I") (List.mem_of_getElem? (i := 3) rfl)) (fun _ h9 => h9) rfl dX5_rail_134 ?_
            refine lv_iconst (v := 1) hx hb dX5_rail_137 (by decide) ?_
            obtain ⟨hi185, hf⟩ := ix_i hf
            refine va_iald hx hb hK hP 1 0 rfl rfl hi185 dX5_rail_138 ?_
            refine lv_topi (fun x186 ex186 => ?_)
            replace hf := nm_i hf ex186
            refine lv_isub hx hb dX5_rail_139 ?_
            refine lv_topi (fun x187 ex187 => ?_)
            replace hf := nm_i hf ex187
            obtain ⟨o188, ho188, hf⟩ := bd_i hf
            refine cl_i [] [0] [wM cT g b u176] hP (va_D_adr hD rfl) hA hS (va_runS (As := [.int x181, .int x187]) (rest := [.int v175, .ref (g (b + 6))]) ⟨hx, hb, hml, hown, hts⟩ (c_X5_greater l D cT g  fu  x181 x187 o188 ho188 _) (va_cwS 2 hts gX5_rail_X5_greater rfl rfl rfl (by decide +kernel) ⟨Nat.le_of_ble_eq_true rfl, Nat.le_of_ble_eq_true rfl⟩) ⟨PRE_blind, PRE_ok [] (by decide) hP (va_D_adr hD rfl) hA hS hK hN hZ⟩ rfl rfl hl.1 rfl (lv_room (Nat.le_of_ble_eq_true rfl)) dX5_rail_140 ⟨Nat.le_of_ble_eq_true rfl, Nat.le_of_ble_eq_true rfl⟩) rfl 1 rfl (by decide) (by decide) (fun H locs hP hS => ?_)
            obtain ⟨hi189, hf⟩ := ix_i hf
            refine va_iast hx hb hK hP (va_D_adr hD rfl) hS 6 0 rfl rfl hi189 dX5_rail_143 (fun H locs hP _ hS => ?_)
            obtain ⟨u190, eu190⟩ : ∃ z : TM, z = M_ra_ u176 (upd (M_ra u176) v175.toNatClampNeg o188) := ⟨_, rfl⟩
            replace hf := nm_i hf eu190
            have hP : va_P D vwCl (List.flatten [wM cT g b u190]) H := by rw [eu190]; exact hP
            obtain ⟨x191, ex191⟩ : ∃ z : Int32, z = v175 + (-1 : Int32) := ⟨_, rfl⟩
            replace hf := nm_i hf ex191
            refine lv_iinc (v := x191) (lv' := [(3, .int x191), (0, .ref (g b)), (1, .int p0)]) hx hb dX5_rail_144 hl (k := 2) rfl (by rw [ex191]; rfl) (by decide) rfl (fun ls hl => ?_)
            refine lv_goto (tgt := 110) hx hb dX5_rail_147 (by decide) ?_
            exact ih _ _ _ hf _ _ _ hP hS (lv_sub hl [1, 2, 0] rfl) kx
        refine hL110 fu _ _ _ hz178 _ _ _ hP hS (lv_sub hl [1, 2, 0] rfl) (fun H locs ls hP hS hl => ?_)
        refine lv_aload_n hx hb dX5_rail_150 rfl (lv_at hl 0 rfl) ?_
        refine va_get (ci := 5) (v := .ref (g (b + 6))) (C := RX5) (T := TX5) (N := 12) hx hb hts iw_X5_rail_X5 hown hK hP 0 rfl rfl 8 (by decide) (hts (.fieldLink RX5 26 "BallastTrackModel" "rail" "[I") (List.mem_of_getElem? (i := 2) rfl)) (fun _ h9 => h9) rfl dX5_rail_151 ?_
        refine lv_iload_n hx hb dX5_rail_154 rfl (lv_at hl 1 rfl) ?_
        obtain ⟨hi192, hf⟩ := ix_i hf
        refine va_iald hx hb hK hP 6 0 rfl rfl hi192 dX5_rail_155 ?_
        refine lv_topi (fun x193 ex193 => ?_)
        replace hf := nm_i hf ex193
        obtain rfl := Option.some.inj hf
        subst hQ
        exact en_i hx hb hr hP hS hlocks dX5_rail_156
      · replace hf := it_f hf (not_not_intro c77)
        refine lv_aload_n hx hb dX5_rail_25 rfl (lv_at hl 0 rfl) ?_
        obtain ⟨o194, ho194, hf⟩ := bd_i hf
        refine cl_v [0] [] [wM cT g b o194] hP (va_D_adr hD rfl) hA hS (va_runV (As := []) (rest := []) ⟨hx, hb, hml, hown, hts⟩ (c_X5_laysRail l D cT g b fu u_mo  o194 ho194 _) (cwV 0 hts gX5_rail_X5_laysRail rfl rfl rfl (by decide +kernel) ⟨Nat.le_of_ble_eq_true rfl, Nat.le_of_ble_eq_true rfl⟩) ⟨PRE_blind, va_recv hK hP (ci := 5) (q0 := 0) rfl rfl, PRE_ok [0] (by decide) hP (va_D_adr hD rfl) hA hS hK hN hZ⟩ rfl rfl hl.1 rfl (lv_room (Nat.le_of_ble_eq_true rfl)) dX5_rail_26 ⟨Nat.le_of_ble_eq_true rfl, Nat.le_of_ble_eq_true rfl⟩) rfl 1 rfl (by decide) (by decide) (fun H locs hP hS => ?_)
        refine lv_aload_n hx hb dX5_rail_29 rfl (lv_at hl 0 rfl) ?_
        refine va_get (ci := 5) (v := .ref (g (b + 6))) (C := RX5) (T := TX5) (N := 12) hx hb hts iw_X5_rail_X5 hown hK hP 0 rfl rfl 8 (by decide) (hts (.fieldLink RX5 26 "BallastTrackModel" "rail" "[I") (List.mem_of_getElem? (i := 2) rfl)) (fun _ h9 => h9) rfl dX5_rail_30 ?_
        refine lv_iload_n hx hb dX5_rail_33 rfl (lv_at hl 1 rfl) ?_
        obtain ⟨hi195, hf⟩ := ix_i hf
        refine va_iald hx hb hK hP 6 0 rfl rfl hi195 dX5_rail_34 ?_
        refine lv_topi (fun x196 ex196 => ?_)
        replace hf := nm_i hf ex196
        obtain rfl := Option.some.inj hf
        subst hQ
        exact en_i hx hb hr hP hS hlocks dX5_rail_35
    · replace hf := it_f hf (not_not_intro c76)
      refine lv_ldc (v := -100001) hx hb hown (hts (.constant RX5 68 (-100001)) (List.mem_of_getElem? (i := 1) rfl)) dX5_rail_17 ?_
      obtain rfl := Option.some.inj hf
      subst hQ
      exact en_i hx hb hr hP hS hlocks dX5_rail_19
theorem iw_X5_why_X5 : ∀ w ∈ u_ws RX5 TX5 12, w ∈ wsX5_why := by decide +kernel
def lb_X5_why_29 (fu : Nat) (o70 : TM) (rec : Int32 → Int32 → Int32 → Option (Int32 × Int32)) (v127 : Int32) (v128 : Int32) (v129 : Int32) : Option (Int32 × Int32) :=
ix ((0 : Int32)) 281 <|
nm ((M_ss o70) ((0 : Int32)).toNatClampNeg) fun (x133 : Int32) =>
if x133 ≤ v129 then (
some (v127, v128)
)
else (
bd (f_X5_defect fu o70 v129) fun (o135 : Int32) =>
bd (f_X5_size fu  o135) fun (o136 : Int32) =>
jn (fun (x138 : Int32) =>
jn (fun (x162 : Int32) =>
jn (fun (x176 : Int32) =>
nm (v129 + (1 : Int32)) fun (x179 : Int32) =>
rec x162 x176 x179
) fun K90_178 =>
if x138 = 0 then (
K90_178 v128
)
else (
bd (f_X5_defect fu o70 v129) fun (o181 : Int32) =>
bd (f_X5_size fu  o181) fun (o182 : Int32) =>
K90_178 o182
)
) fun K71_172 =>
if x138 = 0 then (
K71_172 v127
)
else (
K71_172 v129
)
) fun K58_160 =>
if o136 ≤ v128 then (
K58_160 ((0 : Int32))
)
else (
K58_160 ((1 : Int32))
)
)

def lf_X5_why_29 (fu : Nat) (o70 : TM) : Nat → Int32 → Int32 → Int32 → Option (Int32 × Int32) := lq_3 (lb_X5_why_29 fu o70)
def f_X5_why (fu : Nat) (u_mo : TM) (p0 : Int32) : Option (Int32 × TM) :=
bd (f_X5_in fu  p0 ((0 : Int32)) ((1 : Int32))) fun (o68 : Bool) =>
if ¬ bI o68 = 0 then (
bd (f_X5_laysRail fu u_mo ) fun (o70 : TM) =>
ix ((4 : Int32)) 281 <|
nm ((M_ss o70) ((4 : Int32)).toNatClampNeg) fun (x72 : Int32) =>
bd (lf_X5_why_29 fu o70 fu ((-100009 : Int32)) x72 ((0 : Int32))) fun (z131 : Int32 × Int32) =>
jn (some (z131.1, o70)
) fun K107_187 =>
if z131.1 = (-100009 : Int32) then (
K107_187 
)
else (
if ¬ p0 = 0 then (
some (z131.2, o70)
)
else (
K107_187 
)
)
)
else (
some ((-100001 : Int32), u_mo)
)

abbrev rm_X5_why : Room := { frames := 2, cells := 0, slots := 0, locals := 43 }
set_option maxHeartbeats 4000000 in
set_option maxRecDepth 100000 in
theorem c_X5_why (l : Launch) (D : va_G) (cT : Nat → ClassId) (g : Nat → Nat) (b : Nat) (fu : Nat) (u_mo : TM) (p0 : Int32) (o : Int32 × TM) (hf : f_X5_why fu u_mo p0 = some o) (sz : Nat) : Met l yX5_why wsX5_why rm_X5_why (va_Pc [.ref (g b), .int p0] (PRE D cT sz (List.flatten [wM cT g b u_mo]))) (QI D o.1 (List.flatten [wM cT g b o.2]) (va_A (List.flatten [wM cT g b u_mo]) sz)) 0 0 (va_A (List.flatten [wM cT g b u_mo]) sz) := by
  refine Met.ofW (cc := cX5_why) (maxL := 6) (ret := (some .int)) (by decide) rfl ?_
  intro p e s m args below meth c s₁ B0 hml hv
  obtain ⟨hav, hsz, hP, hK, hD, hN, hZ⟩ := hv
  have hx := B0.exec
  have hb := B0.bytes
  have hr := B0.returns
  have hts := atoms_spec (ws := wsX5_why) B0.pre
  have hown : s.vm.findClass RX5 = some m.cls := findClass_of_methodNamed B0.named
  have hlocks := B0.notSynchronized
  subst hsz
  have hD := hD.self (sz := s.heap.size)
  have hA : ∀ q : Nat, s.heap.size ≤ q → va_A (List.flatten [wM cT g b u_mo]) s.heap.size q := fun q h => Or.inr h
  generalize va_A (List.flatten [wM cT g b u_mo]) s.heap.size = A at hD hZ hA ⊢
  have hS : va_S A s.heap s.heap [] := va_S.rf
  have hl := lv_entry ([.ref (g b), .int p0]) (n := 6) (Nat.le_of_ble_eq_true rfl)
  rw [hav]
  rw [lg_entry_eq]
  generalize (lg_sl ([.ref (g b), .int p0]) ++ List.replicate (6 - (lg_sl ([.ref (g b), .int p0])).length) Slot.unset).toArray = ls at hl ⊢
  have hl : lv_has ls 6 [(0, .ref (g b)), (1, .int p0)] := hl
  rw [← hav]
  generalize hQ : MQ below _ _ _ _ _ _ = Q
  show W p l e rm_X5_why s m args below meth c s.heap [] 0 0 Q (F0 m 0 ls [])
  unfold f_X5_why at hf
  refine lv_iload_n hx hb dX5_why_0 rfl (lv_at hl 1 rfl) ?_
  refine lv_iconst (v := 0) hx hb dX5_why_1 (by decide) ?_
  refine lv_iconst (v := 1) hx hb dX5_why_2 (by decide) ?_
  obtain ⟨o68, ho68, hf⟩ := bd_i hf
  refine cl_i [] [0] [wM cT g b u_mo] hP (va_D_adr hD rfl) hA hS (va_runS (As := [.int p0, .int ((0 : Int32)), .int ((1 : Int32))]) (rest := []) ⟨hx, hb, hml, hown, hts⟩ (c_X5_in l D cT g  fu  p0 ((0 : Int32)) ((1 : Int32)) o68 ho68 _) (va_cwS 3 hts gX5_why_X5_in rfl rfl rfl (by decide +kernel) ⟨Nat.le_of_ble_eq_true rfl, Nat.le_of_ble_eq_true rfl⟩) ⟨PRE_blind, PRE_ok [] (by decide) hP (va_D_adr hD rfl) hA hS hK hN hZ⟩ rfl rfl hl.1 rfl (lv_room (Nat.le_of_ble_eq_true rfl)) dX5_why_3 ⟨Nat.le_of_ble_eq_true rfl, Nat.le_of_ble_eq_true rfl⟩) rfl 1 rfl (by decide) (by decide) (fun H locs hP hS => ?_)
  refine lv_if_ne (tgt := 12) hx hb dX5_why_6 (by decide) (fun c69 => ?_) (fun c69 => ?_)
  · replace hf := it_t hf c69
    refine lv_aload_n hx hb dX5_why_12 rfl (lv_at hl 0 rfl) ?_
    obtain ⟨o70, ho70, hf⟩ := bd_i hf
    refine cl_v [0] [] [wM cT g b o70] hP (va_D_adr hD rfl) hA hS (va_runV (As := []) (rest := []) ⟨hx, hb, hml, hown, hts⟩ (c_X5_laysRail l D cT g b fu u_mo  o70 ho70 _) (cwV 0 hts gX5_why_X5_laysRail rfl rfl rfl (by decide +kernel) ⟨Nat.le_of_ble_eq_true rfl, Nat.le_of_ble_eq_true rfl⟩) ⟨PRE_blind, va_recv hK hP (ci := 5) (q0 := 0) rfl rfl, PRE_ok [0] (by decide) hP (va_D_adr hD rfl) hA hS hK hN hZ⟩ rfl rfl hl.1 rfl (lv_room (Nat.le_of_ble_eq_true rfl)) dX5_why_13 ⟨Nat.le_of_ble_eq_true rfl, Nat.le_of_ble_eq_true rfl⟩) rfl 1 rfl (by decide) (by decide) (fun H locs hP hS => ?_)
    refine lv_ldc (v := -100009) hx hb hown (hts (.constant RX5 165 (-100009)) (List.mem_of_getElem? (i := 2) rfl)) dX5_why_16 ?_
    refine lv_istore_n (lv' := [(2, .int ((-100009 : Int32))), (0, .ref (g b)), (1, .int p0)]) hx hb dX5_why_18 rfl hl (by decide) rfl (fun ls hl => ?_)
    refine lv_aload_n hx hb dX5_why_19 rfl (lv_at hl 1 rfl) ?_
    refine va_get (ci := 5) (v := .ref (g (b + 1))) (C := RX5) (T := TX5) (N := 12) hx hb hts iw_X5_why_X5 hown hK hP 0 rfl rfl 0 (by decide) (hts (.fieldLink RX5 7 "BallastTrackModel" "s" "[I") (List.mem_of_getElem? (i := 3) rfl)) (fun _ h9 => h9) rfl dX5_why_20 ?_
    refine lv_iconst (v := 4) hx hb dX5_why_23 (by decide) ?_
    obtain ⟨hi71, hf⟩ := ix_i hf
    refine va_iald hx hb hK hP 1 0 rfl rfl hi71 dX5_why_24 ?_
    refine lv_topi (fun x72 ex72 => ?_)
    replace hf := nm_i hf ex72
    refine lv_istore_n (lv' := [(3, .int x72), (2, .int ((-100009 : Int32))), (0, .ref (g b)), (1, .int p0)]) hx hb dX5_why_25 rfl hl (by decide) rfl (fun ls hl => ?_)
    refine lv_iconst (v := 0) hx hb dX5_why_26 (by decide) ?_
    refine lv_istore (lv' := [(4, .int ((0 : Int32))), (3, .int x72), (2, .int ((-100009 : Int32))), (0, .ref (g b)), (1, .int p0)]) hx hb dX5_why_27 hl (by decide) rfl (fun ls hl => ?_)
    obtain ⟨z131, hz131, hf⟩ := bd_i hf
    have hL29 : ∀ (n : Nat) (v127 : Int32) (v128 : Int32) (v129 : Int32) (z130 : Int32 × Int32), lf_X5_why_29 fu o70 n v127 v128 v129 = some z130 → ∀ (H : Heap) (locs : List Loc) (ls : Array Slot), va_P D vwCl (List.flatten [wM cT g b o70]) H → va_S A s.heap H locs → lv_has ls 6 [(0, .ref (g b)), (1, .int p0), (2, .int v127), (3, .int v128), (4, .int v129)] → (∀ (H : Heap) (locs : List Loc) (ls : Array Slot), va_P D vwCl (List.flatten [wM cT g b o70]) H → va_S A s.heap H locs → lv_has ls 6 [(1, .int p0), (2, .int z130.1), (3, .int z130.2)] → W p l e rm_X5_why s m args below meth c H locs 0 0 Q (F0 m 97 ls [])) → W p l e rm_X5_why s m args below meth c H locs 0 0 Q (F0 m 29 ls []) := by
      refine lq_3_ind (F := lb_X5_why_29 fu o70) (fun rec ih v127 v128 v129 z130 hf H locs ls hP hS hl kx => ?_)
      unfold lb_X5_why_29 at hf
      refine lv_iload hx hb dX5_why_29 (lv_at hl 4 rfl) ?_
      refine lv_aload_n hx hb dX5_why_31 rfl (lv_at hl 0 rfl) ?_
      refine va_get (ci := 5) (v := .ref (g (b + 1))) (C := RX5) (T := TX5) (N := 12) hx hb hts iw_X5_why_X5 hown hK hP 0 rfl rfl 0 (by decide) (hts (.fieldLink RX5 7 "BallastTrackModel" "s" "[I") (List.mem_of_getElem? (i := 3) rfl)) (fun _ h9 => h9) rfl dX5_why_32 ?_
      refine lv_iconst (v := 0) hx hb dX5_why_35 (by decide) ?_
      obtain ⟨hi132, hf⟩ := ix_i hf
      refine va_iald hx hb hK hP 1 0 rfl rfl hi132 dX5_why_36 ?_
      refine lv_topi (fun x133 ex133 => ?_)
      replace hf := nm_i hf ex133
      refine lv_icmp_ge (tgt := 97) hx hb dX5_why_37 (by decide) (fun c134 => ?_) (fun c134 => ?_)
      · replace hf := it_t hf c134
        obtain rfl := Option.some.inj hf
        exact kx _ _ _ hP hS (lv_sub hl [1, 2, 3] rfl)
      · replace hf := it_f hf c134
        refine lv_aload_n hx hb dX5_why_40 rfl (lv_at hl 0 rfl) ?_
        refine lv_iload hx hb dX5_why_41 (lv_at hl 4 rfl) ?_
        obtain ⟨o135, ho135, hf⟩ := bd_i hf
        refine cl_i [0] [] [wM cT g b o70] hP (va_D_adr hD rfl) hA hS (va_runV (As := [.int v129]) (rest := []) ⟨hx, hb, hml, hown, hts⟩ (c_X5_defect l D cT g b fu o70 v129 o135 ho135 _) (cwV 1 hts gX5_why_X5_defect rfl rfl rfl (by decide +kernel) ⟨Nat.le_of_ble_eq_true rfl, Nat.le_of_ble_eq_true rfl⟩) ⟨PRE_blind, va_recv hK hP (ci := 5) (q0 := 0) rfl rfl, PRE_ok [0] (by decide) hP (va_D_adr hD rfl) hA hS hK hN hZ⟩ rfl rfl hl.1 rfl (lv_room (Nat.le_of_ble_eq_true rfl)) dX5_why_43 ⟨Nat.le_of_ble_eq_true rfl, Nat.le_of_ble_eq_true rfl⟩) rfl 1 rfl (by decide) (by decide) (fun H locs hP hS => ?_)
        obtain ⟨o136, ho136, hf⟩ := bd_i hf
        refine cl_i [] [0] [wM cT g b o70] hP (va_D_adr hD rfl) hA hS (va_runS (As := [.int o135]) (rest := []) ⟨hx, hb, hml, hown, hts⟩ (c_X5_size l D cT g  fu  o135 o136 ho136 _) (va_cwS 1 hts gX5_why_X5_size rfl rfl rfl (by decide +kernel) ⟨Nat.le_of_ble_eq_true rfl, Nat.le_of_ble_eq_true rfl⟩) ⟨PRE_blind, PRE_ok [] (by decide) hP (va_D_adr hD rfl) hA hS hK hN hZ⟩ rfl rfl hl.1 rfl (lv_room (Nat.le_of_ble_eq_true rfl)) dX5_why_46 ⟨Nat.le_of_ble_eq_true rfl, Nat.le_of_ble_eq_true rfl⟩) rfl 1 rfl (by decide) (by decide) (fun H locs hP hS => ?_)
        refine lv_iload_n hx hb dX5_why_49 rfl (lv_at hl 3 rfl) ?_
        obtain ⟨K58_160, eK58_160, hf⟩ := jn_i hf
        have hK58_160 : ∀ (x138 : Int32) (H : Heap) (locs : List Loc) (ls : Array Slot), K58_160 x138 = some z130 → va_P D vwCl (List.flatten [wM cT g b o70]) H → va_S A s.heap H locs → lv_has ls 6 [(0, .ref (g b)), (1, .int p0), (2, .int v127), (3, .int v128), (4, .int v129)] → W p l e rm_X5_why s m args below meth c H locs 0 0 Q (F0 m 58 ls [.int x138]) := by
          intro x138 H locs ls hf hP hS hl
          rw [eK58_160] at hf
          refine lv_istore (lv' := [(5, .int x138), (0, .ref (g b)), (1, .int p0), (2, .int v127), (3, .int v128), (4, .int v129)]) hx hb dX5_why_58 hl (by decide) rfl (fun ls hl => ?_)
          refine lv_iload hx hb dX5_why_60 (lv_at hl 0 rfl) ?_
          obtain ⟨K71_172, eK71_172, hf⟩ := jn_i hf
          have hK71_172 : ∀ (x162 : Int32) (H : Heap) (locs : List Loc) (ls : Array Slot), K71_172 x162 = some z130 → va_P D vwCl (List.flatten [wM cT g b o70]) H → va_S A s.heap H locs → lv_has ls 6 [(0, .ref (g b)), (1, .int p0), (3, .int v128), (4, .int v129), (5, .int x138)] → W p l e rm_X5_why s m args below meth c H locs 0 0 Q (F0 m 71 ls [.int x162]) := by
            intro x162 H locs ls hf hP hS hl
            rw [eK71_172] at hf
            refine lv_istore_n (lv' := [(2, .int x162), (0, .ref (g b)), (1, .int p0), (3, .int v128), (4, .int v129), (5, .int x138)]) hx hb dX5_why_71 rfl hl (by decide) rfl (fun ls hl => ?_)
            refine lv_iload hx hb dX5_why_72 (lv_at hl 5 rfl) ?_
            obtain ⟨K90_178, eK90_178, hf⟩ := jn_i hf
            have hK90_178 : ∀ (x176 : Int32) (H : Heap) (locs : List Loc) (ls : Array Slot), K90_178 x176 = some z130 → va_P D vwCl (List.flatten [wM cT g b o70]) H → va_S A s.heap H locs → lv_has ls 6 [(0, .ref (g b)), (1, .int p0), (2, .int x162), (4, .int v129)] → W p l e rm_X5_why s m args below meth c H locs 0 0 Q (F0 m 90 ls [.int x176]) := by
              intro x176 H locs ls hf hP hS hl
              rw [eK90_178] at hf
              refine lv_istore_n (lv' := [(3, .int x176), (0, .ref (g b)), (1, .int p0), (2, .int x162), (4, .int v129)]) hx hb dX5_why_90 rfl hl (by decide) rfl (fun ls hl => ?_)
              obtain ⟨x179, ex179⟩ : ∃ z : Int32, z = v129 + (1 : Int32) := ⟨_, rfl⟩
              replace hf := nm_i hf ex179
              refine lv_iinc (v := x179) (lv' := [(4, .int x179), (3, .int x176), (0, .ref (g b)), (1, .int p0), (2, .int x162)]) hx hb dX5_why_91 hl (k := 4) rfl (by rw [ex179]; rfl) (by decide) rfl (fun ls hl => ?_)
              refine lv_goto (tgt := 29) hx hb dX5_why_94 (by decide) ?_
              exact ih _ _ _ _ hf _ _ _ hP hS (lv_sub hl [2, 3, 4, 1, 0] rfl) kx
            clear eK90_178
            refine lv_if_eq (tgt := 89) hx hb dX5_why_74 (by decide) (fun c180 => ?_) (fun c180 => ?_)
            · replace hf := it_t hf c180
              refine lv_iload_n hx hb dX5_why_89 rfl (lv_at hl 3 rfl) ?_
              exact hK90_178 _ _ _ _ hf hP hS (lv_sub hl [1, 2, 0, 4] rfl)
            · replace hf := it_f hf c180
              refine lv_aload_n hx hb dX5_why_77 rfl (lv_at hl 1 rfl) ?_
              refine lv_iload hx hb dX5_why_78 (lv_at hl 4 rfl) ?_
              obtain ⟨o181, ho181, hf⟩ := bd_i hf
              refine cl_i [0] [] [wM cT g b o70] hP (va_D_adr hD rfl) hA hS (va_runV (As := [.int v129]) (rest := []) ⟨hx, hb, hml, hown, hts⟩ (c_X5_defect l D cT g b fu o70 v129 o181 ho181 _) (cwV 1 hts gX5_why_X5_defect rfl rfl rfl (by decide +kernel) ⟨Nat.le_of_ble_eq_true rfl, Nat.le_of_ble_eq_true rfl⟩) ⟨PRE_blind, va_recv hK hP (ci := 5) (q0 := 0) rfl rfl, PRE_ok [0] (by decide) hP (va_D_adr hD rfl) hA hS hK hN hZ⟩ rfl rfl hl.1 rfl (lv_room (Nat.le_of_ble_eq_true rfl)) dX5_why_80 ⟨Nat.le_of_ble_eq_true rfl, Nat.le_of_ble_eq_true rfl⟩) rfl 1 rfl (by decide) (by decide) (fun H locs hP hS => ?_)
              obtain ⟨o182, ho182, hf⟩ := bd_i hf
              refine cl_i [] [0] [wM cT g b o70] hP (va_D_adr hD rfl) hA hS (va_runS (As := [.int o181]) (rest := []) ⟨hx, hb, hml, hown, hts⟩ (c_X5_size l D cT g  fu  o181 o182 ho182 _) (va_cwS 1 hts gX5_why_X5_size rfl rfl rfl (by decide +kernel) ⟨Nat.le_of_ble_eq_true rfl, Nat.le_of_ble_eq_true rfl⟩) ⟨PRE_blind, PRE_ok [] (by decide) hP (va_D_adr hD rfl) hA hS hK hN hZ⟩ rfl rfl hl.1 rfl (lv_room (Nat.le_of_ble_eq_true rfl)) dX5_why_83 ⟨Nat.le_of_ble_eq_true rfl, Nat.le_of_ble_eq_true rfl⟩) rfl 1 rfl (by decide) (by decide) (fun H locs hP hS => ?_)
              refine lv_goto (tgt := 90) hx hb dX5_why_86 (by decide) ?_
              exact hK90_178 _ _ _ _ hf hP hS (lv_sub hl [1, 2, 0, 4] rfl)
          clear eK71_172
          refine lv_if_eq (tgt := 70) hx hb dX5_why_62 (by decide) (fun c183 => ?_) (fun c183 => ?_)
          · replace hf := it_t hf c183
            refine lv_iload_n hx hb dX5_why_70 rfl (lv_at hl 3 rfl) ?_
            exact hK71_172 _ _ _ _ hf hP hS (lv_sub hl [1, 2, 4, 5, 0] rfl)
          · replace hf := it_f hf c183
            refine lv_iload hx hb dX5_why_65 (lv_at hl 5 rfl) ?_
            refine lv_goto (tgt := 71) hx hb dX5_why_67 (by decide) ?_
            exact hK71_172 _ _ _ _ hf hP hS (lv_sub hl [1, 2, 4, 5, 0] rfl)
        clear eK58_160
        refine lv_icmp_le (tgt := 57) hx hb dX5_why_50 (by decide) (fun c184 => ?_) (fun c184 => ?_)
        · replace hf := it_t hf c184
          refine lv_iconst (v := 0) hx hb dX5_why_57 (by decide) ?_
          exact hK58_160 _ _ _ _ hf hP hS (lv_sub hl [0, 1, 2, 3, 4] rfl)
        · replace hf := it_f hf c184
          refine lv_iconst (v := 1) hx hb dX5_why_53 (by decide) ?_
          refine lv_goto (tgt := 58) hx hb dX5_why_54 (by decide) ?_
          exact hK58_160 _ _ _ _ hf hP hS (lv_sub hl [0, 1, 2, 3, 4] rfl)
    refine hL29 fu _ _ _ _ hz131 _ _ _ hP hS (lv_sub hl [3, 4, 2, 1, 0] rfl) (fun H locs ls hP hS hl => ?_)
    refine lv_iload_n hx hb dX5_why_97 rfl (lv_at hl 1 rfl) ?_
    refine lv_ldc (v := -100009) hx hb hown (hts (.constant RX5 165 (-100009)) (List.mem_of_getElem? (i := 2) rfl)) dX5_why_98 ?_
    obtain ⟨K107_187, eK107_187, hf⟩ := jn_i hf
    have hK107_187 : ∀  (H : Heap) (locs : List Loc) (ls : Array Slot), K107_187  = some o → va_P D vwCl (List.flatten [wM cT g b o70]) H → va_S A s.heap H locs → lv_has ls 6 [(2, .int z131.1)] → W p l e rm_X5_why s m args below meth c H locs 0 0 Q (F0 m 107 ls []) := by
      intro  H locs ls hf hP hS hl
      rw [eK107_187] at hf
      refine lv_iload_n hx hb dX5_why_107 rfl (lv_at hl 0 rfl) ?_
      refine lv_goto (tgt := 112) hx hb dX5_why_108 (by decide) ?_
      obtain rfl := Option.some.inj hf
      subst hQ
      exact en_i hx hb hr hP hS hlocks dX5_why_112
    clear eK107_187
    refine lv_icmp_eq (tgt := 107) hx hb dX5_why_100 (by decide) (fun c188 => ?_) (fun c188 => ?_)
    · replace hf := it_t hf c188
      exact hK107_187  _ _ _ hf hP hS (lv_sub hl [1] rfl)
    · replace hf := it_f hf c188
      refine lv_iload_n hx hb dX5_why_103 rfl (lv_at hl 0 rfl) ?_
      refine lv_if_ne (tgt := 111) hx hb dX5_why_104 (by decide) (fun c189 => ?_) (fun c189 => ?_)
      · replace hf := it_t hf c189
        refine lv_iload_n hx hb dX5_why_111 rfl (lv_at hl 2 rfl) ?_
        obtain rfl := Option.some.inj hf
        subst hQ
        exact en_i hx hb hr hP hS hlocks dX5_why_112
      · replace hf := it_f hf (not_not_intro c189)
        exact hK107_187  _ _ _ hf hP hS (lv_sub hl [1] rfl)
  · replace hf := it_f hf (not_not_intro c69)
    refine lv_ldc (v := -100001) hx hb hown (hts (.constant RX5 68 (-100001)) (List.mem_of_getElem? (i := 1) rfl)) dX5_why_9 ?_
    obtain rfl := Option.some.inj hf
    subst hQ
    exact en_i hx hb hr hP hS hlocks dX5_why_11
theorem iw_X5_lifts_X5 : ∀ w ∈ u_ws RX5 TX5 12, w ∈ wsX5_lifts := by decide +kernel
def f_X5_lifts (fu : Nat) (u_mo : TM) (p0 : Int32) (p1 : Int32) : Option (Int32) :=
bd (f_X5_isSleeper fu u_mo p0) fun (o15 : Bool) =>
if bI o15 = 0 then (
some ((-100001 : Int32))
)
else (
bd (f_X5_isLevel fu  p1) fun (o17 : Bool) =>
if ¬ bI o17 = 0 then (
bd (f_X5_liftOf fu u_mo p0 p1) fun (o19 : Int32) =>
if 0 < o19 then (
ix ((8 : Int32)) 281 <|
nm ((M_ss u_mo) ((8 : Int32)).toNatClampNeg) fun (x22 : Int32) =>
if x22 ≤ o19 then (
nm ((41 : Int32) + p0) fun (x24 : Int32) =>
ix x24 281 <|
nm ((M_ss u_mo) x24.toNatClampNeg) fun (x26 : Int32) =>
nm (p1 - x26) fun (x27 : Int32) =>
if ¬ o19 = x27 then (
some ((1 : Int32))
)
else (
some ((0 : Int32))
)
)
else (
some ((3 : Int32))
)
)
else (
some ((2 : Int32))
)
)
else (
some ((-100001 : Int32))
)
)

abbrev rm_X5_lifts : Room := { frames := 2, cells := 0, slots := 0, locals := 43 }
set_option maxHeartbeats 4000000 in
set_option maxRecDepth 100000 in
theorem c_X5_lifts (l : Launch) (D : va_G) (cT : Nat → ClassId) (g : Nat → Nat) (b : Nat) (fu : Nat) (u_mo : TM) (p0 : Int32) (p1 : Int32) (o : Int32) (hf : f_X5_lifts fu u_mo p0 p1 = some o) (sz : Nat) : Met l yX5_lifts wsX5_lifts rm_X5_lifts (va_Pc [.ref (g b), .int p0, .int p1] (PRE D cT sz (List.flatten [wM cT g b u_mo]))) (QI D o (List.flatten [wM cT g b u_mo]) (va_A (List.flatten [wM cT g b u_mo]) sz)) 0 0 (va_A (List.flatten [wM cT g b u_mo]) sz) := by
  refine Met.ofW (cc := cX5_lifts) (maxL := 4) (ret := (some .int)) (by decide) rfl ?_
  intro p e s m args below meth c s₁ B0 hml hv
  obtain ⟨hav, hsz, hP, hK, hD, hN, hZ⟩ := hv
  have hx := B0.exec
  have hb := B0.bytes
  have hr := B0.returns
  have hts := atoms_spec (ws := wsX5_lifts) B0.pre
  have hown : s.vm.findClass RX5 = some m.cls := findClass_of_methodNamed B0.named
  have hlocks := B0.notSynchronized
  subst hsz
  have hD := hD.self (sz := s.heap.size)
  have hA : ∀ q : Nat, s.heap.size ≤ q → va_A (List.flatten [wM cT g b u_mo]) s.heap.size q := fun q h => Or.inr h
  generalize va_A (List.flatten [wM cT g b u_mo]) s.heap.size = A at hD hZ hA ⊢
  have hS : va_S A s.heap s.heap [] := va_S.rf
  have hl := lv_entry ([.ref (g b), .int p0, .int p1]) (n := 4) (Nat.le_of_ble_eq_true rfl)
  rw [hav]
  rw [lg_entry_eq]
  generalize (lg_sl ([.ref (g b), .int p0, .int p1]) ++ List.replicate (4 - (lg_sl ([.ref (g b), .int p0, .int p1])).length) Slot.unset).toArray = ls at hl ⊢
  have hl : lv_has ls 4 [(0, .ref (g b)), (1, .int p0), (2, .int p1)] := hl
  rw [← hav]
  generalize hQ : MQ below _ _ _ _ _ _ = Q
  show W p l e rm_X5_lifts s m args below meth c s.heap [] 0 0 Q (F0 m 0 ls [])
  unfold f_X5_lifts at hf
  refine lv_aload_n hx hb dX5_lifts_0 rfl (lv_at hl 0 rfl) ?_
  refine lv_iload_n hx hb dX5_lifts_1 rfl (lv_at hl 1 rfl) ?_
  obtain ⟨o15, ho15, hf⟩ := bd_i hf
  refine cl_i [0] [] [wM cT g b u_mo] hP (va_D_adr hD rfl) hA hS (va_runV (As := [.int p0]) (rest := []) ⟨hx, hb, hml, hown, hts⟩ (c_X5_isSleeper l D cT g b fu u_mo p0 o15 ho15 _) (cwV 1 hts gX5_lifts_X5_isSleeper rfl rfl rfl (by decide +kernel) ⟨Nat.le_of_ble_eq_true rfl, Nat.le_of_ble_eq_true rfl⟩) ⟨PRE_blind, va_recv hK hP (ci := 5) (q0 := 0) rfl rfl, PRE_ok [0] (by decide) hP (va_D_adr hD rfl) hA hS hK hN hZ⟩ rfl rfl hl.1 rfl (lv_room (Nat.le_of_ble_eq_true rfl)) dX5_lifts_2 ⟨Nat.le_of_ble_eq_true rfl, Nat.le_of_ble_eq_true rfl⟩) rfl 1 rfl (by decide) (by decide) (fun H locs hP hS => ?_)
  refine lv_if_eq (tgt := 15) hx hb dX5_lifts_5 (by decide) (fun c16 => ?_) (fun c16 => ?_)
  · replace hf := it_t hf c16
    refine lv_ldc (v := -100001) hx hb hown (hts (.constant RX5 68 (-100001)) (List.mem_of_getElem? (i := 1) rfl)) dX5_lifts_15 ?_
    obtain rfl := Option.some.inj hf
    subst hQ
    exact en_i hx hb hr hP hS hlocks dX5_lifts_17
  · replace hf := it_f hf c16
    refine lv_iload_n hx hb dX5_lifts_8 rfl (lv_at hl 2 rfl) ?_
    obtain ⟨o17, ho17, hf⟩ := bd_i hf
    refine cl_i [] [0] [wM cT g b u_mo] hP (va_D_adr hD rfl) hA hS (va_runS (As := [.int p1]) (rest := []) ⟨hx, hb, hml, hown, hts⟩ (c_X5_isLevel l D cT g  fu  p1 o17 ho17 _) (va_cwS 1 hts gX5_lifts_X5_isLevel rfl rfl rfl (by decide +kernel) ⟨Nat.le_of_ble_eq_true rfl, Nat.le_of_ble_eq_true rfl⟩) ⟨PRE_blind, PRE_ok [] (by decide) hP (va_D_adr hD rfl) hA hS hK hN hZ⟩ rfl rfl hl.1 rfl (lv_room (Nat.le_of_ble_eq_true rfl)) dX5_lifts_9 ⟨Nat.le_of_ble_eq_true rfl, Nat.le_of_ble_eq_true rfl⟩) rfl 1 rfl (by decide) (by decide) (fun H locs hP hS => ?_)
    refine lv_if_ne (tgt := 18) hx hb dX5_lifts_12 (by decide) (fun c18 => ?_) (fun c18 => ?_)
    · replace hf := it_t hf c18
      refine lv_aload_n hx hb dX5_lifts_18 rfl (lv_at hl 0 rfl) ?_
      refine lv_iload_n hx hb dX5_lifts_19 rfl (lv_at hl 1 rfl) ?_
      refine lv_iload_n hx hb dX5_lifts_20 rfl (lv_at hl 2 rfl) ?_
      obtain ⟨o19, ho19, hf⟩ := bd_i hf
      refine cl_i [0] [] [wM cT g b u_mo] hP (va_D_adr hD rfl) hA hS (va_runV (As := [.int p0, .int p1]) (rest := []) ⟨hx, hb, hml, hown, hts⟩ (c_X5_liftOf l D cT g b fu u_mo p0 p1 o19 ho19 _) (cwV 2 hts gX5_lifts_X5_liftOf rfl rfl rfl (by decide +kernel) ⟨Nat.le_of_ble_eq_true rfl, Nat.le_of_ble_eq_true rfl⟩) ⟨PRE_blind, va_recv hK hP (ci := 5) (q0 := 0) rfl rfl, PRE_ok [0] (by decide) hP (va_D_adr hD rfl) hA hS hK hN hZ⟩ rfl rfl hl.1 rfl (lv_room (Nat.le_of_ble_eq_true rfl)) dX5_lifts_21 ⟨Nat.le_of_ble_eq_true rfl, Nat.le_of_ble_eq_true rfl⟩) rfl 1 rfl (by decide) (by decide) (fun H locs hP hS => ?_)
      refine lv_istore_n (lv' := [(3, .int o19), (0, .ref (g b)), (1, .int p0), (2, .int p1)]) hx hb dX5_lifts_24 rfl hl (by decide) rfl (fun ls hl => ?_)
      refine lv_iload_n hx hb dX5_lifts_25 rfl (lv_at hl 0 rfl) ?_
      refine lv_if_gt (tgt := 31) hx hb dX5_lifts_26 (by decide) (fun c20 => ?_) (fun c20 => ?_)
      · replace hf := it_t hf c20
        refine lv_iload_n hx hb dX5_lifts_31 rfl (lv_at hl 0 rfl) ?_
        refine lv_aload_n hx hb dX5_lifts_32 rfl (lv_at hl 1 rfl) ?_
        refine va_get (ci := 5) (v := .ref (g (b + 1))) (C := RX5) (T := TX5) (N := 12) hx hb hts iw_X5_lifts_X5 hown hK hP 0 rfl rfl 0 (by decide) (hts (.fieldLink RX5 7 "BallastTrackModel" "s" "[I") (List.mem_of_getElem? (i := 2) rfl)) (fun _ h9 => h9) rfl dX5_lifts_33 ?_
        refine lv_bipush (v := 8) hx hb dX5_lifts_36 (by decide) ?_
        obtain ⟨hi21, hf⟩ := ix_i hf
        refine va_iald hx hb hK hP 1 0 rfl rfl hi21 dX5_lifts_38 ?_
        refine lv_topi (fun x22 ex22 => ?_)
        replace hf := nm_i hf ex22
        refine lv_icmp_ge (tgt := 44) hx hb dX5_lifts_39 (by decide) (fun c23 => ?_) (fun c23 => ?_)
        · replace hf := it_t hf c23
          refine lv_iload_n hx hb dX5_lifts_44 rfl (lv_at hl 0 rfl) ?_
          refine lv_iload_n hx hb dX5_lifts_45 rfl (lv_at hl 3 rfl) ?_
          refine lv_aload_n hx hb dX5_lifts_46 rfl (lv_at hl 1 rfl) ?_
          refine va_get (ci := 5) (v := .ref (g (b + 1))) (C := RX5) (T := TX5) (N := 12) hx hb hts iw_X5_lifts_X5 hown hK hP 0 rfl rfl 0 (by decide) (hts (.fieldLink RX5 7 "BallastTrackModel" "s" "[I") (List.mem_of_getElem? (i := 2) rfl)) (fun _ h9 => h9) rfl dX5_lifts_47 ?_
          refine lv_bipush (v := 41) hx hb dX5_lifts_50 (by decide) ?_
          refine lv_iload_n hx hb dX5_lifts_52 rfl (lv_at hl 2 rfl) ?_
          refine lv_iadd hx hb dX5_lifts_53 ?_
          refine lv_topi (fun x24 ex24 => ?_)
          replace hf := nm_i hf ex24
          obtain ⟨hi25, hf⟩ := ix_i hf
          refine va_iald hx hb hK hP 1 0 rfl rfl hi25 dX5_lifts_54 ?_
          refine lv_topi (fun x26 ex26 => ?_)
          replace hf := nm_i hf ex26
          refine lv_isub hx hb dX5_lifts_55 ?_
          refine lv_topi (fun x27 ex27 => ?_)
          replace hf := nm_i hf ex27
          refine lv_icmp_ne (tgt := 63) hx hb dX5_lifts_56 (by decide) (fun c28 => ?_) (fun c28 => ?_)
          · replace hf := it_t hf c28
            refine lv_iconst (v := 1) hx hb dX5_lifts_63 (by decide) ?_
            obtain rfl := Option.some.inj hf
            subst hQ
            exact en_i hx hb hr hP hS hlocks dX5_lifts_64
          · replace hf := it_f hf (not_not_intro c28)
            refine lv_iconst (v := 0) hx hb dX5_lifts_59 (by decide) ?_
            refine lv_goto (tgt := 64) hx hb dX5_lifts_60 (by decide) ?_
            obtain rfl := Option.some.inj hf
            subst hQ
            exact en_i hx hb hr hP hS hlocks dX5_lifts_64
        · replace hf := it_f hf c23
          refine lv_iconst (v := 3) hx hb dX5_lifts_42 (by decide) ?_
          obtain rfl := Option.some.inj hf
          subst hQ
          exact en_i hx hb hr hP hS hlocks dX5_lifts_43
      · replace hf := it_f hf c20
        refine lv_iconst (v := 2) hx hb dX5_lifts_29 (by decide) ?_
        obtain rfl := Option.some.inj hf
        subst hQ
        exact en_i hx hb hr hP hS hlocks dX5_lifts_30
    · replace hf := it_f hf (not_not_intro c18)
      refine lv_ldc (v := -100001) hx hb hown (hts (.constant RX5 68 (-100001)) (List.mem_of_getElem? (i := 1) rfl)) dX5_lifts_15 ?_
      obtain rfl := Option.some.inj hf
      subst hQ
      exact en_i hx hb hr hP hS hlocks dX5_lifts_17
def lb_X5_trainsUntil_37 (fu : Nat) (p0 : Int32) (p1 : Int32) (p2 : Int32) (rec : Int32 → Int32 → TM → Option (Int32 × Int32 × TM)) (v37 : Int32) (v38 : Int32) (u39 : TM) : Option (Int32 × Int32 × TM) :=
if p2 ≤ v38 then (
some (v37, v38, u39)
)
else (
if (200 : Int32) ≤ v37 then (
some (v37, v38, u39)
)
else (
bd (f_X5_passes fu u39 p0 p1 v38) fun (o44 : TM) =>
bd (f_X5_order fu o44 ) fun (o45 : Int32) =>
nm (v37 + (1 : Int32)) fun (x46 : Int32) =>
rec x46 o45 o44
)
)

def lf_X5_trainsUntil_37 (fu : Nat) (p0 : Int32) (p1 : Int32) (p2 : Int32) : Nat → Int32 → Int32 → TM → Option (Int32 × Int32 × TM) := lq_3 (lb_X5_trainsUntil_37 fu p0 p1 p2)
def f_X5_trainsUntil (fu : Nat) (u_mo : TM) (p0 : Int32) (p1 : Int32) (p2 : Int32) : Option (Int32 × TM) :=
bd (f_X5_isTrain fu  p0 p1) fun (o22 : Bool) =>
if bI o22 = 0 then (
some ((-100001 : Int32), u_mo)
)
else (
bd (f_X5_in fu  p2 ((1 : Int32)) ((3 : Int32))) fun (o24 : Bool) =>
if ¬ bI o24 = 0 then (
bd (f_X5_putAside fu u_mo ) fun (o26 : TM) =>
bd (f_X5_laysRail fu o26 ) fun (o27 : TM) =>
bd (f_X5_order fu o27 ) fun (o28 : Int32) =>
bd (lf_X5_trainsUntil_37 fu p0 p1 p2 fu ((0 : Int32)) o28 o27) fun (z41 : Int32 × Int32 × TM) =>
bd (f_X5_putBack fu z41.2.2 ) fun (o47 : TM) =>
if p2 ≤ z41.2.1 then (
some (z41.1, o47)
)
else (
some ((-100009 : Int32), o47)
)
)
else (
some ((-100001 : Int32), u_mo)
)
)

abbrev rm_X5_trainsUntil : Room := { frames := 5, cells := 0, slots := 0, locals := 119 }
set_option maxHeartbeats 4000000 in
set_option maxRecDepth 100000 in
theorem c_X5_trainsUntil (l : Launch) (D : va_G) (cT : Nat → ClassId) (g : Nat → Nat) (b : Nat) (fu : Nat) (u_mo : TM) (p0 : Int32) (p1 : Int32) (p2 : Int32) (o : Int32 × TM) (hf : f_X5_trainsUntil fu u_mo p0 p1 p2 = some o) (sz : Nat) : Met l yX5_trainsUntil wsX5_trainsUntil rm_X5_trainsUntil (va_Pc [.ref (g b), .int p0, .int p1, .int p2] (PRE D cT sz (List.flatten [wM cT g b u_mo]))) (QI D o.1 (List.flatten [wM cT g b o.2]) (va_A (List.flatten [wM cT g b u_mo]) sz)) 0 0 (va_A (List.flatten [wM cT g b u_mo]) sz) := by
  refine Met.ofW (cc := cX5_trainsUntil) (maxL := 6) (ret := (some .int)) (by decide) rfl ?_
  intro p e s m args below meth c s₁ B0 hml hv
  obtain ⟨hav, hsz, hP, hK, hD, hN, hZ⟩ := hv
  have hx := B0.exec
  have hb := B0.bytes
  have hr := B0.returns
  have hts := atoms_spec (ws := wsX5_trainsUntil) B0.pre
  have hown : s.vm.findClass RX5 = some m.cls := findClass_of_methodNamed B0.named
  have hlocks := B0.notSynchronized
  subst hsz
  have hD := hD.self (sz := s.heap.size)
  have hA : ∀ q : Nat, s.heap.size ≤ q → va_A (List.flatten [wM cT g b u_mo]) s.heap.size q := fun q h => Or.inr h
  generalize va_A (List.flatten [wM cT g b u_mo]) s.heap.size = A at hD hZ hA ⊢
  have hS : va_S A s.heap s.heap [] := va_S.rf
  have hl := lv_entry ([.ref (g b), .int p0, .int p1, .int p2]) (n := 6) (Nat.le_of_ble_eq_true rfl)
  rw [hav]
  rw [lg_entry_eq]
  generalize (lg_sl ([.ref (g b), .int p0, .int p1, .int p2]) ++ List.replicate (6 - (lg_sl ([.ref (g b), .int p0, .int p1, .int p2])).length) Slot.unset).toArray = ls at hl ⊢
  have hl : lv_has ls 6 [(0, .ref (g b)), (1, .int p0), (2, .int p1), (3, .int p2)] := hl
  rw [← hav]
  generalize hQ : MQ below _ _ _ _ _ _ = Q
  show W p l e rm_X5_trainsUntil s m args below meth c s.heap [] 0 0 Q (F0 m 0 ls [])
  unfold f_X5_trainsUntil at hf
  refine lv_iload_n hx hb dX5_trainsUntil_0 rfl (lv_at hl 1 rfl) ?_
  refine lv_iload_n hx hb dX5_trainsUntil_1 rfl (lv_at hl 2 rfl) ?_
  obtain ⟨o22, ho22, hf⟩ := bd_i hf
  refine cl_i [] [0] [wM cT g b u_mo] hP (va_D_adr hD rfl) hA hS (va_runS (As := [.int p0, .int p1]) (rest := []) ⟨hx, hb, hml, hown, hts⟩ (c_X5_isTrain l D cT g  fu  p0 p1 o22 ho22 _) (va_cwS 2 hts gX5_trainsUntil_X5_isTrain rfl rfl rfl (by decide +kernel) ⟨Nat.le_of_ble_eq_true rfl, Nat.le_of_ble_eq_true rfl⟩) ⟨PRE_blind, PRE_ok [] (by decide) hP (va_D_adr hD rfl) hA hS hK hN hZ⟩ rfl rfl hl.1 rfl (lv_room (Nat.le_of_ble_eq_true rfl)) dX5_trainsUntil_2 ⟨Nat.le_of_ble_eq_true rfl, Nat.le_of_ble_eq_true rfl⟩) rfl 1 rfl (by decide) (by decide) (fun H locs hP hS => ?_)
  refine lv_if_eq (tgt := 17) hx hb dX5_trainsUntil_5 (by decide) (fun c23 => ?_) (fun c23 => ?_)
  · replace hf := it_t hf c23
    refine lv_ldc (v := -100001) hx hb hown (hts (.constant RX5 68 (-100001)) (List.mem_of_getElem? (i := 1) rfl)) dX5_trainsUntil_17 ?_
    obtain rfl := Option.some.inj hf
    subst hQ
    exact en_i hx hb hr hP hS hlocks dX5_trainsUntil_19
  · replace hf := it_f hf c23
    refine lv_iload_n hx hb dX5_trainsUntil_8 rfl (lv_at hl 3 rfl) ?_
    refine lv_iconst (v := 1) hx hb dX5_trainsUntil_9 (by decide) ?_
    refine lv_iconst (v := 3) hx hb dX5_trainsUntil_10 (by decide) ?_
    obtain ⟨o24, ho24, hf⟩ := bd_i hf
    refine cl_i [] [0] [wM cT g b u_mo] hP (va_D_adr hD rfl) hA hS (va_runS (As := [.int p2, .int ((1 : Int32)), .int ((3 : Int32))]) (rest := []) ⟨hx, hb, hml, hown, hts⟩ (c_X5_in l D cT g  fu  p2 ((1 : Int32)) ((3 : Int32)) o24 ho24 _) (va_cwS 3 hts gX5_trainsUntil_X5_in rfl rfl rfl (by decide +kernel) ⟨Nat.le_of_ble_eq_true rfl, Nat.le_of_ble_eq_true rfl⟩) ⟨PRE_blind, PRE_ok [] (by decide) hP (va_D_adr hD rfl) hA hS hK hN hZ⟩ rfl rfl hl.1 rfl (lv_room (Nat.le_of_ble_eq_true rfl)) dX5_trainsUntil_11 ⟨Nat.le_of_ble_eq_true rfl, Nat.le_of_ble_eq_true rfl⟩) rfl 1 rfl (by decide) (by decide) (fun H locs hP hS => ?_)
    refine lv_if_ne (tgt := 20) hx hb dX5_trainsUntil_14 (by decide) (fun c25 => ?_) (fun c25 => ?_)
    · replace hf := it_t hf c25
      refine lv_aload_n hx hb dX5_trainsUntil_20 rfl (lv_at hl 0 rfl) ?_
      obtain ⟨o26, ho26, hf⟩ := bd_i hf
      refine cl_v [0] [] [wM cT g b o26] hP (va_D_adr hD rfl) hA hS (va_runV (As := []) (rest := []) ⟨hx, hb, hml, hown, hts⟩ (c_X5_putAside l D cT g b fu u_mo  o26 ho26 _) (cwV 0 hts gX5_trainsUntil_X5_putAside rfl rfl rfl (by decide +kernel) ⟨Nat.le_of_ble_eq_true rfl, Nat.le_of_ble_eq_true rfl⟩) ⟨PRE_blind, va_recv hK hP (ci := 5) (q0 := 0) rfl rfl, PRE_ok [0] (by decide) hP (va_D_adr hD rfl) hA hS hK hN hZ⟩ rfl rfl hl.1 rfl (lv_room (Nat.le_of_ble_eq_true rfl)) dX5_trainsUntil_21 ⟨Nat.le_of_ble_eq_true rfl, Nat.le_of_ble_eq_true rfl⟩) rfl 1 rfl (by decide) (by decide) (fun H locs hP hS => ?_)
      refine lv_aload_n hx hb dX5_trainsUntil_24 rfl (lv_at hl 0 rfl) ?_
      obtain ⟨o27, ho27, hf⟩ := bd_i hf
      refine cl_v [0] [] [wM cT g b o27] hP (va_D_adr hD rfl) hA hS (va_runV (As := []) (rest := []) ⟨hx, hb, hml, hown, hts⟩ (c_X5_laysRail l D cT g b fu o26  o27 ho27 _) (cwV 0 hts gX5_trainsUntil_X5_laysRail rfl rfl rfl (by decide +kernel) ⟨Nat.le_of_ble_eq_true rfl, Nat.le_of_ble_eq_true rfl⟩) ⟨PRE_blind, va_recv hK hP (ci := 5) (q0 := 0) rfl rfl, PRE_ok [0] (by decide) hP (va_D_adr hD rfl) hA hS hK hN hZ⟩ rfl rfl hl.1 rfl (lv_room (Nat.le_of_ble_eq_true rfl)) dX5_trainsUntil_25 ⟨Nat.le_of_ble_eq_true rfl, Nat.le_of_ble_eq_true rfl⟩) rfl 1 rfl (by decide) (by decide) (fun H locs hP hS => ?_)
      refine lv_iconst (v := 0) hx hb dX5_trainsUntil_28 (by decide) ?_
      refine lv_istore (lv' := [(4, .int ((0 : Int32))), (0, .ref (g b)), (1, .int p0), (2, .int p1), (3, .int p2)]) hx hb dX5_trainsUntil_29 hl (by decide) rfl (fun ls hl => ?_)
      refine lv_aload_n hx hb dX5_trainsUntil_31 rfl (lv_at hl 1 rfl) ?_
      obtain ⟨o28, ho28, hf⟩ := bd_i hf
      refine cl_i [0] [] [wM cT g b o27] hP (va_D_adr hD rfl) hA hS (va_runV (As := []) (rest := []) ⟨hx, hb, hml, hown, hts⟩ (c_X5_order l D cT g b fu o27  o28 ho28 _) (cwV 0 hts gX5_trainsUntil_X5_order rfl rfl rfl (by decide +kernel) ⟨Nat.le_of_ble_eq_true rfl, Nat.le_of_ble_eq_true rfl⟩) ⟨PRE_blind, va_recv hK hP (ci := 5) (q0 := 0) rfl rfl, PRE_ok [0] (by decide) hP (va_D_adr hD rfl) hA hS hK hN hZ⟩ rfl rfl hl.1 rfl (lv_room (Nat.le_of_ble_eq_true rfl)) dX5_trainsUntil_32 ⟨Nat.le_of_ble_eq_true rfl, Nat.le_of_ble_eq_true rfl⟩) rfl 1 rfl (by decide) (by decide) (fun H locs hP hS => ?_)
      refine lv_istore (lv' := [(5, .int o28), (4, .int ((0 : Int32))), (0, .ref (g b)), (1, .int p0), (2, .int p1), (3, .int p2)]) hx hb dX5_trainsUntil_35 hl (by decide) rfl (fun ls hl => ?_)
      obtain ⟨z41, hz41, hf⟩ := bd_i hf
      have hL37 : ∀ (n : Nat) (v37 : Int32) (v38 : Int32) (u39 : TM) (z40 : Int32 × Int32 × TM), lf_X5_trainsUntil_37 fu p0 p1 p2 n v37 v38 u39 = some z40 → ∀ (H : Heap) (locs : List Loc) (ls : Array Slot), va_P D vwCl (List.flatten [wM cT g b u39]) H → va_S A s.heap H locs → lv_has ls 6 [(0, .ref (g b)), (1, .int p0), (2, .int p1), (3, .int p2), (4, .int v37), (5, .int v38)] → (∀ (H : Heap) (locs : List Loc) (ls : Array Slot), va_P D vwCl (List.flatten [wM cT g b z40.2.2]) H → va_S A s.heap H locs → lv_has ls 6 [(0, .ref (g b)), (3, .int p2), (4, .int z40.1), (5, .int z40.2.1)] → W p l e rm_X5_trainsUntil s m args below meth c H locs 0 0 Q (F0 m 71 ls [])) → W p l e rm_X5_trainsUntil s m args below meth c H locs 0 0 Q (F0 m 37 ls []) := by
        refine lq_3_ind (F := lb_X5_trainsUntil_37 fu p0 p1 p2) (fun rec ih v37 v38 u39 z40 hf H locs ls hP hS hl kx => ?_)
        unfold lb_X5_trainsUntil_37 at hf
        refine lv_iload hx hb dX5_trainsUntil_37 (lv_at hl 5 rfl) ?_
        refine lv_iload_n hx hb dX5_trainsUntil_39 rfl (lv_at hl 3 rfl) ?_
        refine lv_icmp_ge (tgt := 71) hx hb dX5_trainsUntil_40 (by decide) (fun c42 => ?_) (fun c42 => ?_)
        · replace hf := it_t hf c42
          obtain rfl := Option.some.inj hf
          exact kx _ _ _ hP hS (lv_sub hl [0, 3, 4, 5] rfl)
        · replace hf := it_f hf c42
          refine lv_iload hx hb dX5_trainsUntil_43 (lv_at hl 4 rfl) ?_
          refine lv_sipush (v := 200) hx hb dX5_trainsUntil_45 (by decide) ?_
          refine lv_icmp_ge (tgt := 71) hx hb dX5_trainsUntil_48 (by decide) (fun c43 => ?_) (fun c43 => ?_)
          · replace hf := it_t hf c43
            obtain rfl := Option.some.inj hf
            exact kx _ _ _ hP hS (lv_sub hl [0, 3, 4, 5] rfl)
          · replace hf := it_f hf c43
            refine lv_aload_n hx hb dX5_trainsUntil_51 rfl (lv_at hl 0 rfl) ?_
            refine lv_iload_n hx hb dX5_trainsUntil_52 rfl (lv_at hl 1 rfl) ?_
            refine lv_iload_n hx hb dX5_trainsUntil_53 rfl (lv_at hl 2 rfl) ?_
            refine lv_iload hx hb dX5_trainsUntil_54 (lv_at hl 5 rfl) ?_
            obtain ⟨o44, ho44, hf⟩ := bd_i hf
            refine cl_v [0] [] [wM cT g b o44] hP (va_D_adr hD rfl) hA hS (va_runV (As := [.int p0, .int p1, .int v38]) (rest := []) ⟨hx, hb, hml, hown, hts⟩ (c_X5_passes l D cT g b fu u39 p0 p1 v38 o44 ho44 _) (cwV 3 hts gX5_trainsUntil_X5_passes rfl rfl rfl (by decide +kernel) ⟨Nat.le_of_ble_eq_true rfl, Nat.le_of_ble_eq_true rfl⟩) ⟨PRE_blind, va_recv hK hP (ci := 5) (q0 := 0) rfl rfl, PRE_ok [0] (by decide) hP (va_D_adr hD rfl) hA hS hK hN hZ⟩ rfl rfl hl.1 rfl (lv_room (Nat.le_of_ble_eq_true rfl)) dX5_trainsUntil_56 ⟨Nat.le_of_ble_eq_true rfl, Nat.le_of_ble_eq_true rfl⟩) rfl 1 rfl (by decide) (by decide) (fun H locs hP hS => ?_)
            refine lv_aload_n hx hb dX5_trainsUntil_59 rfl (lv_at hl 0 rfl) ?_
            obtain ⟨o45, ho45, hf⟩ := bd_i hf
            refine cl_i [0] [] [wM cT g b o44] hP (va_D_adr hD rfl) hA hS (va_runV (As := []) (rest := []) ⟨hx, hb, hml, hown, hts⟩ (c_X5_order l D cT g b fu o44  o45 ho45 _) (cwV 0 hts gX5_trainsUntil_X5_order rfl rfl rfl (by decide +kernel) ⟨Nat.le_of_ble_eq_true rfl, Nat.le_of_ble_eq_true rfl⟩) ⟨PRE_blind, va_recv hK hP (ci := 5) (q0 := 0) rfl rfl, PRE_ok [0] (by decide) hP (va_D_adr hD rfl) hA hS hK hN hZ⟩ rfl rfl hl.1 rfl (lv_room (Nat.le_of_ble_eq_true rfl)) dX5_trainsUntil_60 ⟨Nat.le_of_ble_eq_true rfl, Nat.le_of_ble_eq_true rfl⟩) rfl 1 rfl (by decide) (by decide) (fun H locs hP hS => ?_)
            refine lv_istore (lv' := [(5, .int o45), (0, .ref (g b)), (1, .int p0), (2, .int p1), (3, .int p2), (4, .int v37)]) hx hb dX5_trainsUntil_63 hl (by decide) rfl (fun ls hl => ?_)
            obtain ⟨x46, ex46⟩ : ∃ z : Int32, z = v37 + (1 : Int32) := ⟨_, rfl⟩
            replace hf := nm_i hf ex46
            refine lv_iinc (v := x46) (lv' := [(4, .int x46), (5, .int o45), (0, .ref (g b)), (1, .int p0), (2, .int p1), (3, .int p2)]) hx hb dX5_trainsUntil_65 hl (k := 5) rfl (by rw [ex46]; rfl) (by decide) rfl (fun ls hl => ?_)
            refine lv_goto (tgt := 37) hx hb dX5_trainsUntil_68 (by decide) ?_
            exact ih _ _ _ _ hf _ _ _ hP hS (lv_sub hl [2, 3, 4, 5, 0, 1] rfl) kx
      refine hL37 fu _ _ _ _ hz41 _ _ _ hP hS (lv_sub hl [2, 3, 4, 5, 1, 0] rfl) (fun H locs ls hP hS hl => ?_)
      refine lv_aload_n hx hb dX5_trainsUntil_71 rfl (lv_at hl 0 rfl) ?_
      obtain ⟨o47, ho47, hf⟩ := bd_i hf
      refine cl_v [0] [] [wM cT g b o47] hP (va_D_adr hD rfl) hA hS (va_runV (As := []) (rest := []) ⟨hx, hb, hml, hown, hts⟩ (c_X5_putBack l D cT g b fu z41.2.2  o47 ho47 _) (cwV 0 hts gX5_trainsUntil_X5_putBack rfl rfl rfl (by decide +kernel) ⟨Nat.le_of_ble_eq_true rfl, Nat.le_of_ble_eq_true rfl⟩) ⟨PRE_blind, va_recv hK hP (ci := 5) (q0 := 0) rfl rfl, PRE_ok [0] (by decide) hP (va_D_adr hD rfl) hA hS hK hN hZ⟩ rfl rfl hl.1 rfl (lv_room (Nat.le_of_ble_eq_true rfl)) dX5_trainsUntil_72 ⟨Nat.le_of_ble_eq_true rfl, Nat.le_of_ble_eq_true rfl⟩) rfl 1 rfl (by decide) (by decide) (fun H locs hP hS => ?_)
      refine lv_iload hx hb dX5_trainsUntil_75 (lv_at hl 3 rfl) ?_
      refine lv_iload_n hx hb dX5_trainsUntil_77 rfl (lv_at hl 1 rfl) ?_
      refine lv_icmp_ge (tgt := 86) hx hb dX5_trainsUntil_78 (by decide) (fun c48 => ?_) (fun c48 => ?_)
      · replace hf := it_t hf c48
        refine lv_iload hx hb dX5_trainsUntil_86 (lv_at hl 2 rfl) ?_
        obtain rfl := Option.some.inj hf
        subst hQ
        exact en_i hx hb hr hP hS hlocks dX5_trainsUntil_88
      · replace hf := it_f hf c48
        refine lv_ldc (v := -100009) hx hb hown (hts (.constant RX5 165 (-100009)) (List.mem_of_getElem? (i := 2) rfl)) dX5_trainsUntil_81 ?_
        refine lv_goto (tgt := 88) hx hb dX5_trainsUntil_83 (by decide) ?_
        obtain rfl := Option.some.inj hf
        subst hQ
        exact en_i hx hb hr hP hS hlocks dX5_trainsUntil_88
    · replace hf := it_f hf (not_not_intro c25)
      refine lv_ldc (v := -100001) hx hb hown (hts (.constant RX5 68 (-100001)) (List.mem_of_getElem? (i := 1) rfl)) dX5_trainsUntil_17 ?_
      obtain rfl := Option.some.inj hf
      subst hQ
      exact en_i hx hb hr hP hS hlocks dX5_trainsUntil_19
theorem iw_X5_voidsWith_X5 : ∀ w ∈ u_ws RX5 TX5 12, w ∈ wsX5_voidsWith := by decide +kernel
def lb_X5_voidsWith_7 (fu : Nat) (p0 : Int32) (p1 : Int32) (p2 : Int32) (rec : Int32 → TM → Option (TM)) (v62 : Int32) (u63 : TM) : Option (TM) :=
nm (p0 + p1) fun (x66 : Int32) =>
if x66 ≤ v62 then (
some (u63)
)
else (
bd (f_X5_liftOf fu u63 v62 p2) fun (o68 : Int32) =>
nm ((41 : Int32) + v62) fun (x69 : Int32) =>
ix x69 281 <|
nm ((M_ss u63) x69.toNatClampNeg) fun (x71 : Int32) =>
ix ((8 : Int32)) 281 <|
nm ((M_ss u63) ((8 : Int32)).toNatClampNeg) fun (x73 : Int32) =>
jn (fun (x75 : Int32) =>
nm (x71 + x75) fun (x81 : Int32) =>
ix x69 281 <|
nm (M_ss_ u63 (upd (M_ss u63) x69.toNatClampNeg x81)) fun (u83 : TM) =>
nm (v62 + (1 : Int32)) fun (x84 : Int32) =>
rec x84 u83
) fun K53_80 =>
if o68 < x73 then (
K53_80 ((0 : Int32))
)
else (
K53_80 o68
)
)

def lf_X5_voidsWith_7 (fu : Nat) (p0 : Int32) (p1 : Int32) (p2 : Int32) : Nat → Int32 → TM → Option (TM) := lq_2 (lb_X5_voidsWith_7 fu p0 p1 p2)
def lb_X5_voidsWith_71 (fu : Nat) (o86 : TM) (rec : Int32 → Int32 → Option (Int32)) (v96 : Int32) (v97 : Int32) : Option (Int32) :=
ix ((0 : Int32)) 281 <|
nm ((M_ss o86) ((0 : Int32)).toNatClampNeg) fun (x101 : Int32) =>
if x101 ≤ v97 then (
some (v96)
)
else (
bd (f_X5_voidAt fu o86 v97) fun (o103 : Int32) =>
nm (v96 + o103) fun (x104 : Int32) =>
nm (v97 + (1 : Int32)) fun (x105 : Int32) =>
rec x104 x105
)

def lf_X5_voidsWith_71 (fu : Nat) (o86 : TM) : Nat → Int32 → Int32 → Option (Int32) := lq_2 (lb_X5_voidsWith_71 fu o86)
def f_X5_voidsWith (fu : Nat) (u_mo : TM) (p0 : Int32) (p1 : Int32) (p2 : Int32) : Option (Int32 × TM) :=
bd (f_X5_putAside fu u_mo ) fun (o40 : TM) =>
bd (lf_X5_voidsWith_7 fu p0 p1 p2 fu p0 o40) fun (z65 : TM) =>
bd (f_X5_laysRail fu z65 ) fun (o86 : TM) =>
bd (lf_X5_voidsWith_71 fu o86 fu ((0 : Int32)) ((0 : Int32))) fun (z99 : Int32) =>
bd (f_X5_putBack fu o86 ) fun (o106 : TM) =>
some (z99, o106)

abbrev rm_X5_voidsWith : Room := { frames := 2, cells := 0, slots := 0, locals := 43 }
set_option maxHeartbeats 4000000 in
set_option maxRecDepth 100000 in
theorem c_X5_voidsWith (l : Launch) (D : va_G) (cT : Nat → ClassId) (g : Nat → Nat) (b : Nat) (fu : Nat) (u_mo : TM) (p0 : Int32) (p1 : Int32) (p2 : Int32) (o : Int32 × TM) (hf : f_X5_voidsWith fu u_mo p0 p1 p2 = some o) (sz : Nat) : Met l yX5_voidsWith wsX5_voidsWith rm_X5_voidsWith (va_Pc [.ref (g b), .int p0, .int p1, .int p2] (PRE D cT sz (List.flatten [wM cT g b u_mo]))) (QI D o.1 (List.flatten [wM cT g b o.2]) (va_A (List.flatten [wM cT g b u_mo]) sz)) 0 0 (va_A (List.flatten [wM cT g b u_mo]) sz) := by
  refine Met.ofW (cc := cX5_voidsWith) (maxL := 6) (ret := (some .int)) (by decide) rfl ?_
  intro p e s m args below meth c s₁ B0 hml hv
  obtain ⟨hav, hsz, hP, hK, hD, hN, hZ⟩ := hv
  have hx := B0.exec
  have hb := B0.bytes
  have hr := B0.returns
  have hts := atoms_spec (ws := wsX5_voidsWith) B0.pre
  have hown : s.vm.findClass RX5 = some m.cls := findClass_of_methodNamed B0.named
  have hlocks := B0.notSynchronized
  subst hsz
  have hD := hD.self (sz := s.heap.size)
  have hA : ∀ q : Nat, s.heap.size ≤ q → va_A (List.flatten [wM cT g b u_mo]) s.heap.size q := fun q h => Or.inr h
  generalize va_A (List.flatten [wM cT g b u_mo]) s.heap.size = A at hD hZ hA ⊢
  have hS : va_S A s.heap s.heap [] := va_S.rf
  have hl := lv_entry ([.ref (g b), .int p0, .int p1, .int p2]) (n := 6) (Nat.le_of_ble_eq_true rfl)
  rw [hav]
  rw [lg_entry_eq]
  generalize (lg_sl ([.ref (g b), .int p0, .int p1, .int p2]) ++ List.replicate (6 - (lg_sl ([.ref (g b), .int p0, .int p1, .int p2])).length) Slot.unset).toArray = ls at hl ⊢
  have hl : lv_has ls 6 [(0, .ref (g b)), (1, .int p0), (2, .int p1), (3, .int p2)] := hl
  rw [← hav]
  generalize hQ : MQ below _ _ _ _ _ _ = Q
  show W p l e rm_X5_voidsWith s m args below meth c s.heap [] 0 0 Q (F0 m 0 ls [])
  unfold f_X5_voidsWith at hf
  refine lv_aload_n hx hb dX5_voidsWith_0 rfl (lv_at hl 0 rfl) ?_
  obtain ⟨o40, ho40, hf⟩ := bd_i hf
  refine cl_v [0] [] [wM cT g b o40] hP (va_D_adr hD rfl) hA hS (va_runV (As := []) (rest := []) ⟨hx, hb, hml, hown, hts⟩ (c_X5_putAside l D cT g b fu u_mo  o40 ho40 _) (cwV 0 hts gX5_voidsWith_X5_putAside rfl rfl rfl (by decide +kernel) ⟨Nat.le_of_ble_eq_true rfl, Nat.le_of_ble_eq_true rfl⟩) ⟨PRE_blind, va_recv hK hP (ci := 5) (q0 := 0) rfl rfl, PRE_ok [0] (by decide) hP (va_D_adr hD rfl) hA hS hK hN hZ⟩ rfl rfl hl.1 rfl (lv_room (Nat.le_of_ble_eq_true rfl)) dX5_voidsWith_1 ⟨Nat.le_of_ble_eq_true rfl, Nat.le_of_ble_eq_true rfl⟩) rfl 1 rfl (by decide) (by decide) (fun H locs hP hS => ?_)
  refine lv_iload_n hx hb dX5_voidsWith_4 rfl (lv_at hl 1 rfl) ?_
  refine lv_istore (lv' := [(4, .int p0), (0, .ref (g b)), (1, .int p0), (2, .int p1), (3, .int p2)]) hx hb dX5_voidsWith_5 hl (by decide) rfl (fun ls hl => ?_)
  obtain ⟨z65, hz65, hf⟩ := bd_i hf
  have hL7 : ∀ (n : Nat) (v62 : Int32) (u63 : TM) (z64 : TM), lf_X5_voidsWith_7 fu p0 p1 p2 n v62 u63 = some z64 → ∀ (H : Heap) (locs : List Loc) (ls : Array Slot), va_P D vwCl (List.flatten [wM cT g b u63]) H → va_S A s.heap H locs → lv_has ls 6 [(0, .ref (g b)), (1, .int p0), (2, .int p1), (3, .int p2), (4, .int v62)] → (∀ (H : Heap) (locs : List Loc) (ls : Array Slot), va_P D vwCl (List.flatten [wM cT g b z64]) H → va_S A s.heap H locs → lv_has ls 6 [(0, .ref (g b))] → W p l e rm_X5_voidsWith s m args below meth c H locs 0 0 Q (F0 m 61 ls [])) → W p l e rm_X5_voidsWith s m args below meth c H locs 0 0 Q (F0 m 7 ls []) := by
    refine lq_2_ind (F := lb_X5_voidsWith_7 fu p0 p1 p2) (fun rec ih v62 u63 z64 hf H locs ls hP hS hl kx => ?_)
    unfold lb_X5_voidsWith_7 at hf
    refine lv_iload hx hb dX5_voidsWith_7 (lv_at hl 4 rfl) ?_
    refine lv_iload_n hx hb dX5_voidsWith_9 rfl (lv_at hl 1 rfl) ?_
    refine lv_iload_n hx hb dX5_voidsWith_10 rfl (lv_at hl 2 rfl) ?_
    refine lv_iadd hx hb dX5_voidsWith_11 ?_
    refine lv_topi (fun x66 ex66 => ?_)
    replace hf := nm_i hf ex66
    refine lv_icmp_ge (tgt := 61) hx hb dX5_voidsWith_12 (by decide) (fun c67 => ?_) (fun c67 => ?_)
    · replace hf := it_t hf c67
      obtain rfl := Option.some.inj hf
      exact kx _ _ _ hP hS (lv_sub hl [0] rfl)
    · replace hf := it_f hf c67
      refine lv_aload_n hx hb dX5_voidsWith_15 rfl (lv_at hl 0 rfl) ?_
      refine lv_iload hx hb dX5_voidsWith_16 (lv_at hl 4 rfl) ?_
      refine lv_iload_n hx hb dX5_voidsWith_18 rfl (lv_at hl 3 rfl) ?_
      obtain ⟨o68, ho68, hf⟩ := bd_i hf
      refine cl_i [0] [] [wM cT g b u63] hP (va_D_adr hD rfl) hA hS (va_runV (As := [.int v62, .int p2]) (rest := []) ⟨hx, hb, hml, hown, hts⟩ (c_X5_liftOf l D cT g b fu u63 v62 p2 o68 ho68 _) (cwV 2 hts gX5_voidsWith_X5_liftOf rfl rfl rfl (by decide +kernel) ⟨Nat.le_of_ble_eq_true rfl, Nat.le_of_ble_eq_true rfl⟩) ⟨PRE_blind, va_recv hK hP (ci := 5) (q0 := 0) rfl rfl, PRE_ok [0] (by decide) hP (va_D_adr hD rfl) hA hS hK hN hZ⟩ rfl rfl hl.1 rfl (lv_room (Nat.le_of_ble_eq_true rfl)) dX5_voidsWith_19 ⟨Nat.le_of_ble_eq_true rfl, Nat.le_of_ble_eq_true rfl⟩) rfl 1 rfl (by decide) (by decide) (fun H locs hP hS => ?_)
      refine lv_istore (lv' := [(5, .int o68), (0, .ref (g b)), (1, .int p0), (2, .int p1), (3, .int p2), (4, .int v62)]) hx hb dX5_voidsWith_22 hl (by decide) rfl (fun ls hl => ?_)
      refine lv_aload_n hx hb dX5_voidsWith_24 rfl (lv_at hl 1 rfl) ?_
      refine va_get (ci := 5) (v := .ref (g (b + 1))) (C := RX5) (T := TX5) (N := 12) hx hb hts iw_X5_voidsWith_X5 hown hK hP 0 rfl rfl 0 (by decide) (hts (.fieldLink RX5 7 "BallastTrackModel" "s" "[I") (List.mem_of_getElem? (i := 1) rfl)) (fun _ h9 => h9) rfl dX5_voidsWith_25 ?_
      refine lv_bipush (v := 41) hx hb dX5_voidsWith_28 (by decide) ?_
      refine lv_iload hx hb dX5_voidsWith_30 (lv_at hl 5 rfl) ?_
      refine lv_iadd hx hb dX5_voidsWith_32 ?_
      refine lv_topi (fun x69 ex69 => ?_)
      replace hf := nm_i hf ex69
      refine lv_dup2_11 hx hb dX5_voidsWith_33 rfl rfl ?_
      obtain ⟨hi70, hf⟩ := ix_i hf
      refine va_iald hx hb hK hP 1 0 rfl rfl hi70 dX5_voidsWith_34 ?_
      refine lv_topi (fun x71 ex71 => ?_)
      replace hf := nm_i hf ex71
      refine lv_iload hx hb dX5_voidsWith_35 (lv_at hl 0 rfl) ?_
      refine lv_aload_n hx hb dX5_voidsWith_37 rfl (lv_at hl 1 rfl) ?_
      refine va_get (ci := 5) (v := .ref (g (b + 1))) (C := RX5) (T := TX5) (N := 12) hx hb hts iw_X5_voidsWith_X5 hown hK hP 0 rfl rfl 0 (by decide) (hts (.fieldLink RX5 7 "BallastTrackModel" "s" "[I") (List.mem_of_getElem? (i := 1) rfl)) (fun _ h9 => h9) rfl dX5_voidsWith_38 ?_
      refine lv_bipush (v := 8) hx hb dX5_voidsWith_41 (by decide) ?_
      obtain ⟨hi72, hf⟩ := ix_i hf
      refine va_iald hx hb hK hP 1 0 rfl rfl hi72 dX5_voidsWith_43 ?_
      refine lv_topi (fun x73 ex73 => ?_)
      replace hf := nm_i hf ex73
      obtain ⟨K53_80, eK53_80, hf⟩ := jn_i hf
      have hK53_80 : ∀ (x75 : Int32) (H : Heap) (locs : List Loc) (ls : Array Slot), K53_80 x75 = some z64 → va_P D vwCl (List.flatten [wM cT g b u63]) H → va_S A s.heap H locs → lv_has ls 6 [(0, .ref (g b)), (1, .int p0), (2, .int p1), (3, .int p2), (4, .int v62)] → W p l e rm_X5_voidsWith s m args below meth c H locs 0 0 Q (F0 m 53 ls [.int x75, .int x71, .int x69, .ref (g (b + 1))]) := by
        intro x75 H locs ls hf hP hS hl
        rw [eK53_80] at hf
        refine lv_iadd hx hb dX5_voidsWith_53 ?_
        refine lv_topi (fun x81 ex81 => ?_)
        replace hf := nm_i hf ex81
        obtain ⟨hi82, hf⟩ := ix_i hf
        refine va_iast hx hb hK hP (va_D_adr hD rfl) hS 1 0 rfl rfl hi82 dX5_voidsWith_54 (fun H locs hP _ hS => ?_)
        obtain ⟨u83, eu83⟩ : ∃ z : TM, z = M_ss_ u63 (upd (M_ss u63) x69.toNatClampNeg x81) := ⟨_, rfl⟩
        replace hf := nm_i hf eu83
        have hP : va_P D vwCl (List.flatten [wM cT g b u83]) H := by rw [eu83]; exact hP
        obtain ⟨x84, ex84⟩ : ∃ z : Int32, z = v62 + (1 : Int32) := ⟨_, rfl⟩
        replace hf := nm_i hf ex84
        refine lv_iinc (v := x84) (lv' := [(4, .int x84), (0, .ref (g b)), (1, .int p0), (2, .int p1), (3, .int p2)]) hx hb dX5_voidsWith_55 hl (k := 4) rfl (by rw [ex84]; rfl) (by decide) rfl (fun ls hl => ?_)
        refine lv_goto (tgt := 7) hx hb dX5_voidsWith_58 (by decide) ?_
        exact ih _ _ _ hf _ _ _ hP hS (lv_sub hl [1, 2, 3, 4, 0] rfl) kx
      clear eK53_80
      refine lv_icmp_lt (tgt := 52) hx hb dX5_voidsWith_44 (by decide) (fun c85 => ?_) (fun c85 => ?_)
      · replace hf := it_t hf c85
        refine lv_iconst (v := 0) hx hb dX5_voidsWith_52 (by decide) ?_
        exact hK53_80 _ _ _ _ hf hP hS (lv_sub hl [1, 2, 3, 4, 5] rfl)
      · replace hf := it_f hf c85
        refine lv_iload hx hb dX5_voidsWith_47 (lv_at hl 0 rfl) ?_
        refine lv_goto (tgt := 53) hx hb dX5_voidsWith_49 (by decide) ?_
        exact hK53_80 _ _ _ _ hf hP hS (lv_sub hl [1, 2, 3, 4, 5] rfl)
  refine hL7 fu _ _ _ hz65 _ _ _ hP hS (lv_sub hl [1, 2, 3, 4, 0] rfl) (fun H locs ls hP hS hl => ?_)
  refine lv_aload_n hx hb dX5_voidsWith_61 rfl (lv_at hl 0 rfl) ?_
  obtain ⟨o86, ho86, hf⟩ := bd_i hf
  refine cl_v [0] [] [wM cT g b o86] hP (va_D_adr hD rfl) hA hS (va_runV (As := []) (rest := []) ⟨hx, hb, hml, hown, hts⟩ (c_X5_laysRail l D cT g b fu z65  o86 ho86 _) (cwV 0 hts gX5_voidsWith_X5_laysRail rfl rfl rfl (by decide +kernel) ⟨Nat.le_of_ble_eq_true rfl, Nat.le_of_ble_eq_true rfl⟩) ⟨PRE_blind, va_recv hK hP (ci := 5) (q0 := 0) rfl rfl, PRE_ok [0] (by decide) hP (va_D_adr hD rfl) hA hS hK hN hZ⟩ rfl rfl hl.1 rfl (lv_room (Nat.le_of_ble_eq_true rfl)) dX5_voidsWith_62 ⟨Nat.le_of_ble_eq_true rfl, Nat.le_of_ble_eq_true rfl⟩) rfl 1 rfl (by decide) (by decide) (fun H locs hP hS => ?_)
  refine lv_iconst (v := 0) hx hb dX5_voidsWith_65 (by decide) ?_
  refine lv_istore (lv' := [(4, .int ((0 : Int32))), (0, .ref (g b))]) hx hb dX5_voidsWith_66 hl (by decide) rfl (fun ls hl => ?_)
  refine lv_iconst (v := 0) hx hb dX5_voidsWith_68 (by decide) ?_
  refine lv_istore (lv' := [(5, .int ((0 : Int32))), (4, .int ((0 : Int32))), (0, .ref (g b))]) hx hb dX5_voidsWith_69 hl (by decide) rfl (fun ls hl => ?_)
  obtain ⟨z99, hz99, hf⟩ := bd_i hf
  have hL71 : ∀ (n : Nat) (v96 : Int32) (v97 : Int32) (z98 : Int32), lf_X5_voidsWith_71 fu o86 n v96 v97 = some z98 → ∀ (H : Heap) (locs : List Loc) (ls : Array Slot), va_P D vwCl (List.flatten [wM cT g b o86]) H → va_S A s.heap H locs → lv_has ls 6 [(0, .ref (g b)), (4, .int v96), (5, .int v97)] → (∀ (H : Heap) (locs : List Loc) (ls : Array Slot), va_P D vwCl (List.flatten [wM cT g b o86]) H → va_S A s.heap H locs → lv_has ls 6 [(0, .ref (g b)), (4, .int z98)] → W p l e rm_X5_voidsWith s m args below meth c H locs 0 0 Q (F0 m 99 ls [])) → W p l e rm_X5_voidsWith s m args below meth c H locs 0 0 Q (F0 m 71 ls []) := by
    refine lq_2_ind (F := lb_X5_voidsWith_71 fu o86) (fun rec ih v96 v97 z98 hf H locs ls hP hS hl kx => ?_)
    unfold lb_X5_voidsWith_71 at hf
    refine lv_iload hx hb dX5_voidsWith_71 (lv_at hl 2 rfl) ?_
    refine lv_aload_n hx hb dX5_voidsWith_73 rfl (lv_at hl 0 rfl) ?_
    refine va_get (ci := 5) (v := .ref (g (b + 1))) (C := RX5) (T := TX5) (N := 12) hx hb hts iw_X5_voidsWith_X5 hown hK hP 0 rfl rfl 0 (by decide) (hts (.fieldLink RX5 7 "BallastTrackModel" "s" "[I") (List.mem_of_getElem? (i := 1) rfl)) (fun _ h9 => h9) rfl dX5_voidsWith_74 ?_
    refine lv_iconst (v := 0) hx hb dX5_voidsWith_77 (by decide) ?_
    obtain ⟨hi100, hf⟩ := ix_i hf
    refine va_iald hx hb hK hP 1 0 rfl rfl hi100 dX5_voidsWith_78 ?_
    refine lv_topi (fun x101 ex101 => ?_)
    replace hf := nm_i hf ex101
    refine lv_icmp_ge (tgt := 99) hx hb dX5_voidsWith_79 (by decide) (fun c102 => ?_) (fun c102 => ?_)
    · replace hf := it_t hf c102
      obtain rfl := Option.some.inj hf
      exact kx _ _ _ hP hS (lv_sub hl [0, 1] rfl)
    · replace hf := it_f hf c102
      refine lv_iload hx hb dX5_voidsWith_82 (lv_at hl 1 rfl) ?_
      refine lv_aload_n hx hb dX5_voidsWith_84 rfl (lv_at hl 0 rfl) ?_
      refine lv_iload hx hb dX5_voidsWith_85 (lv_at hl 2 rfl) ?_
      obtain ⟨o103, ho103, hf⟩ := bd_i hf
      refine cl_i [0] [] [wM cT g b o86] hP (va_D_adr hD rfl) hA hS (va_runV (As := [.int v97]) (rest := [.int v96]) ⟨hx, hb, hml, hown, hts⟩ (c_X5_voidAt l D cT g b fu o86 v97 o103 ho103 _) (cwV 1 hts gX5_voidsWith_X5_voidAt rfl rfl rfl (by decide +kernel) ⟨Nat.le_of_ble_eq_true rfl, Nat.le_of_ble_eq_true rfl⟩) ⟨PRE_blind, va_recv hK hP (ci := 5) (q0 := 0) rfl rfl, PRE_ok [0] (by decide) hP (va_D_adr hD rfl) hA hS hK hN hZ⟩ rfl rfl hl.1 rfl (lv_room (Nat.le_of_ble_eq_true rfl)) dX5_voidsWith_87 ⟨Nat.le_of_ble_eq_true rfl, Nat.le_of_ble_eq_true rfl⟩) rfl 1 rfl (by decide) (by decide) (fun H locs hP hS => ?_)
      refine lv_iadd hx hb dX5_voidsWith_90 ?_
      refine lv_topi (fun x104 ex104 => ?_)
      replace hf := nm_i hf ex104
      refine lv_istore (lv' := [(4, .int x104), (0, .ref (g b)), (5, .int v97)]) hx hb dX5_voidsWith_91 hl (by decide) rfl (fun ls hl => ?_)
      obtain ⟨x105, ex105⟩ : ∃ z : Int32, z = v97 + (1 : Int32) := ⟨_, rfl⟩
      replace hf := nm_i hf ex105
      refine lv_iinc (v := x105) (lv' := [(5, .int x105), (4, .int x104), (0, .ref (g b))]) hx hb dX5_voidsWith_93 hl (k := 2) rfl (by rw [ex105]; rfl) (by decide) rfl (fun ls hl => ?_)
      refine lv_goto (tgt := 71) hx hb dX5_voidsWith_96 (by decide) ?_
      exact ih _ _ _ hf _ _ _ hP hS (lv_sub hl [2, 1, 0] rfl) kx
  refine hL71 fu _ _ _ hz99 _ _ _ hP hS (lv_sub hl [2, 1, 0] rfl) (fun H locs ls hP hS hl => ?_)
  refine lv_aload_n hx hb dX5_voidsWith_99 rfl (lv_at hl 0 rfl) ?_
  obtain ⟨o106, ho106, hf⟩ := bd_i hf
  refine cl_v [0] [] [wM cT g b o106] hP (va_D_adr hD rfl) hA hS (va_runV (As := []) (rest := []) ⟨hx, hb, hml, hown, hts⟩ (c_X5_putBack l D cT g b fu o86  o106 ho106 _) (cwV 0 hts gX5_voidsWith_X5_putBack rfl rfl rfl (by decide +kernel) ⟨Nat.le_of_ble_eq_true rfl, Nat.le_of_ble_eq_true rfl⟩) ⟨PRE_blind, va_recv hK hP (ci := 5) (q0 := 0) rfl rfl, PRE_ok [0] (by decide) hP (va_D_adr hD rfl) hA hS hK hN hZ⟩ rfl rfl hl.1 rfl (lv_room (Nat.le_of_ble_eq_true rfl)) dX5_voidsWith_100 ⟨Nat.le_of_ble_eq_true rfl, Nat.le_of_ble_eq_true rfl⟩) rfl 1 rfl (by decide) (by decide) (fun H locs hP hS => ?_)
  refine lv_iload hx hb dX5_voidsWith_103 (lv_at hl 1 rfl) ?_
  obtain rfl := Option.some.inj hf
  subst hQ
  exact en_i hx hb hr hP hS hlocks dX5_voidsWith_105
