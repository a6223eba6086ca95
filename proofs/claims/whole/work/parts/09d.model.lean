theorem iw_X5_load_X5 : ∀ w ∈ u_ws RX5 TX5 12, w ∈ wsX5_load := by decide +kernel
def lb_X5_load_13 (fu : Nat)  (rec : Int32 → Int32 → TM → Option (Int32 × Int32 × TM)) (v46 : Int32) (v47 : Int32) (u48 : TM) : Option (Int32 × Int32 × TM) :=
if v47 = 0 then (
some (v46, v47, u48)
)
else (
bd (f_X5_here fu u48 ) fun (o52 : Int32 × TM) =>
if o52.1 < 0 then (
some (v46, v47, o52.2)
)
else (
bd (f_X5_readsItem fu o52.2 ) fun (o54 : Bool × TM) =>
nm (v46 + (1 : Int32)) fun (x55 : Int32) =>
rec x55 (bI o54.1) o54.2
)
)

def lf_X5_load_13 (fu : Nat)  : Nat → Int32 → Int32 → TM → Option (Int32 × Int32 × TM) := lq_3 (lb_X5_load_13 fu )
def lb_X5_load_37 (fu : Nat)  (rec : Int32 → TM → Option (TM)) (v68 : Int32) (u69 : TM) : Option (TM) :=
if (281 : Int32) ≤ v68 then (
some (u69)
)
else (
ix v68 281 <|
nm ((M_ss u69) v68.toNatClampNeg) fun (x74 : Int32) =>
ix v68 281 <|
nm ((M_as u69) v68.toNatClampNeg) fun (x76 : Int32) =>
ix v68 281 <|
nm (M_ss_ u69 (upd (M_ss u69) v68.toNatClampNeg x76)) fun (u78 : TM) =>
ix v68 281 <|
nm (M_as_ u78 (upd (M_as u78) v68.toNatClampNeg x74)) fun (u80 : TM) =>
nm (v68 + (1 : Int32)) fun (x81 : Int32) =>
rec x81 u80
)

def lf_X5_load_37 (fu : Nat)  : Nat → Int32 → TM → Option (TM) := lq_2 (lb_X5_load_37 fu )
def f_X5_load (fu : Nat) (u_mo : TM)  : Option (Int32 × TM) :=
bd (f_X5_putAside fu u_mo ) fun (o36 : TM) =>
nm (M_at_ o36 ((0 : Int32))) fun (u37 : TM) =>
bd (lf_X5_load_13 fu  fu ((0 : Int32)) ((1 : Int32)) u37) fun (z50 : Int32 × Int32 × TM) =>
bd (lf_X5_load_37 fu  fu ((0 : Int32)) z50.2.2) fun (z71 : TM) =>
if ¬ z50.2.1 = 0 then (
bd (f_X5_notes fu z71 ) fun (o83 : TM) =>
bd (f_X5_putBack fu o83 ) fun (o84 : TM) =>
nm (M_ty_ o84 ((0 : Int32))) fun (u85 : TM) =>
some (z50.1, u85)
)
else (
nm (M_at z71) fun (x86 : Int32) =>
nm ((-200000 : Int32) - x86) fun (x87 : Int32) =>
some (x87, z71)
)

abbrev rm_X5_load : Room := { frames := 3, cells := 0, slots := 0, locals := 72 }
set_option maxHeartbeats 4000000 in
set_option maxRecDepth 100000 in
theorem c_X5_load (l : Launch) (D : va_G) (cT : Nat → ClassId) (g : Nat → Nat) (b : Nat) (fu : Nat) (u_mo : TM)  (o : Int32 × TM) (hf : f_X5_load fu u_mo  = some o) (sz : Nat) : Met l yX5_load wsX5_load rm_X5_load (va_Pc [.ref (g b)] (PRE D cT sz (List.flatten [wM cT g b u_mo]))) (QI D o.1 (List.flatten [wM cT g b o.2]) (va_A (List.flatten [wM cT g b u_mo]) sz)) 0 0 (va_A (List.flatten [wM cT g b u_mo]) sz) := by
  refine Met.ofW (cc := cX5_load) (maxL := 5) (ret := (some .int)) (by decide) rfl ?_
  intro p e s m args below meth c s₁ B0 hml hv
  obtain ⟨hav, hsz, hP, hK, hD, hN, hZ⟩ := hv
  have hx := B0.exec
  have hb := B0.bytes
  have hr := B0.returns
  have hts := atoms_spec (ws := wsX5_load) B0.pre
  have hown : s.vm.findClass RX5 = some m.cls := findClass_of_methodNamed B0.named
  have hlocks := B0.notSynchronized
  subst hsz
  have hD := hD.self (sz := s.heap.size)
  have hA : ∀ q : Nat, s.heap.size ≤ q → va_A (List.flatten [wM cT g b u_mo]) s.heap.size q := fun q h => Or.inr h
  generalize va_A (List.flatten [wM cT g b u_mo]) s.heap.size = A at hD hZ hA ⊢
  have hS : va_S A s.heap s.heap [] := va_S.rf
  have hl := lv_entry ([.ref (g b)]) (n := 5) (Nat.le_of_ble_eq_true rfl)
  rw [hav]
  rw [lg_entry_eq]
  generalize (lg_sl ([.ref (g b)]) ++ List.replicate (5 - (lg_sl ([.ref (g b)])).length) Slot.unset).toArray = ls at hl ⊢
  have hl : lv_has ls 5 [(0, .ref (g b))] := hl
  rw [← hav]
  generalize hQ : MQ below _ _ _ _ _ _ = Q
  show W p l e rm_X5_load s m args below meth c s.heap [] 0 0 Q (F0 m 0 ls [])
  unfold f_X5_load at hf
  refine lv_aload_n hx hb dX5_load_0 rfl (lv_at hl 0 rfl) ?_
  obtain ⟨o36, ho36, hf⟩ := bd_i hf
  refine cl_v [0] [] [wM cT g b o36] hP (va_D_adr hD rfl) hA hS (va_runV (As := []) (rest := []) ⟨hx, hb, hml, hown, hts⟩ (c_X5_putAside l D cT g b fu u_mo  o36 ho36 _) (cwV 0 hts gX5_load_X5_putAside rfl rfl rfl (by decide +kernel) ⟨Nat.le_of_ble_eq_true rfl, Nat.le_of_ble_eq_true rfl⟩) ⟨PRE_blind, va_recv hK hP (ci := 5) (q0 := 0) rfl rfl, PRE_ok [0] (by decide) hP (va_D_adr hD rfl) hA hS hK hN hZ⟩ rfl rfl hl.1 rfl (lv_room (Nat.le_of_ble_eq_true rfl)) dX5_load_1 ⟨Nat.le_of_ble_eq_true rfl, Nat.le_of_ble_eq_true rfl⟩) rfl 1 rfl (by decide) (by decide) (fun H locs hP hS => ?_)
  refine lv_aload_n hx hb dX5_load_4 rfl (lv_at hl 0 rfl) ?_
  refine lv_iconst (v := 0) hx hb dX5_load_5 (by decide) ?_
  refine va_put (ci := 5) (v := .int ((0 : Int32))) (ty := .int) (C := RX5) (T := TX5) (N := 12) hx hb hts iw_X5_load_X5 tyX5 tyX5_ok nmX5 hown hK hP (va_D_adr hD rfl) hS 0 rfl rfl 10 (by decide) (hts (.fieldLink RX5 87 "BallastTrackModel" "at" "I") (List.mem_of_getElem? (i := 1) rfl)) (fun _ h9 => h9) rfl (by decide +kernel) rfl rfl (Nat.le_of_ble_eq_true rfl) dX5_load_6 (fun H locs hP _ hS => ?_)
  obtain ⟨u37, eu37⟩ : ∃ z : TM, z = M_at_ o36 ((0 : Int32)) := ⟨_, rfl⟩
  replace hf := nm_i hf eu37
  have hP : va_P D vwCl (List.flatten [wM cT g b u37]) H := by rw [eu37]; exact hP
  refine lv_iconst (v := 0) hx hb dX5_load_9 (by decide) ?_
  refine lv_istore_n (lv' := [(1, .int ((0 : Int32))), (0, .ref (g b))]) hx hb dX5_load_10 rfl hl (by decide) rfl (fun ls hl => ?_)
  refine lv_iconst (v := 1) hx hb dX5_load_11 (by decide) ?_
  refine lv_istore_n (lv' := [(2, .int ((1 : Int32))), (1, .int ((0 : Int32))), (0, .ref (g b))]) hx hb dX5_load_12 rfl hl (by decide) rfl (fun ls hl => ?_)
  obtain ⟨z50, hz50, hf⟩ := bd_i hf
  have hL13 : ∀ (n : Nat) (v46 : Int32) (v47 : Int32) (u48 : TM) (z49 : Int32 × Int32 × TM), lf_X5_load_13 fu  n v46 v47 u48 = some z49 → ∀ (H : Heap) (locs : List Loc) (ls : Array Slot), va_P D vwCl (List.flatten [wM cT g b u48]) H → va_S A s.heap H locs → lv_has ls 5 [(0, .ref (g b)), (1, .int v46), (2, .int v47)] → (∀ (H : Heap) (locs : List Loc) (ls : Array Slot), va_P D vwCl (List.flatten [wM cT g b z49.2.2]) H → va_S A s.heap H locs → lv_has ls 5 [(0, .ref (g b)), (1, .int z49.1), (2, .int z49.2.1)] → W p l e rm_X5_load s m args below meth c H locs 0 0 Q (F0 m 35 ls [])) → W p l e rm_X5_load s m args below meth c H locs 0 0 Q (F0 m 13 ls []) := by
    refine lq_3_ind (F := lb_X5_load_13 fu ) (fun rec ih v46 v47 u48 z49 hf H locs ls hP hS hl kx => ?_)
    unfold lb_X5_load_13 at hf
    refine lv_iload_n hx hb dX5_load_13 rfl (lv_at hl 2 rfl) ?_
    refine lv_if_eq (tgt := 35) hx hb dX5_load_14 (by decide) (fun c51 => ?_) (fun c51 => ?_)
    · replace hf := it_t hf c51
      obtain rfl := Option.some.inj hf
      exact kx _ _ _ hP hS (lv_sub hl [0, 1, 2] rfl)
    · replace hf := it_f hf c51
      refine lv_aload_n hx hb dX5_load_17 rfl (lv_at hl 0 rfl) ?_
      obtain ⟨o52, ho52, hf⟩ := bd_i hf
      refine cl_i [0] [] [wM cT g b o52.2] hP (va_D_adr hD rfl) hA hS (va_runV (As := []) (rest := []) ⟨hx, hb, hml, hown, hts⟩ (c_X5_here l D cT g b fu u48  o52 ho52 _) (cwV 0 hts gX5_load_X5_here rfl rfl rfl (by decide +kernel) ⟨Nat.le_of_ble_eq_true rfl, Nat.le_of_ble_eq_true rfl⟩) ⟨PRE_blind, va_recv hK hP (ci := 5) (q0 := 0) rfl rfl, PRE_ok [0] (by decide) hP (va_D_adr hD rfl) hA hS hK hN hZ⟩ rfl rfl hl.1 rfl (lv_room (Nat.le_of_ble_eq_true rfl)) dX5_load_18 ⟨Nat.le_of_ble_eq_true rfl, Nat.le_of_ble_eq_true rfl⟩) rfl 1 rfl (by decide) (by decide) (fun H locs hP hS => ?_)
      refine lv_if_lt (tgt := 35) hx hb dX5_load_21 (by decide) (fun c53 => ?_) (fun c53 => ?_)
      · replace hf := it_t hf c53
        obtain rfl := Option.some.inj hf
        exact kx _ _ _ hP hS (lv_sub hl [0, 1, 2] rfl)
      · replace hf := it_f hf c53
        refine lv_aload_n hx hb dX5_load_24 rfl (lv_at hl 0 rfl) ?_
        obtain ⟨o54, ho54, hf⟩ := bd_i hf
        refine cl_i [0] [] [wM cT g b o54.2] hP (va_D_adr hD rfl) hA hS (va_runV (As := []) (rest := []) ⟨hx, hb, hml, hown, hts⟩ (c_X5_readsItem l D cT g b fu o52.2  o54 ho54 _) (cwV 0 hts gX5_load_X5_readsItem rfl rfl rfl (by decide +kernel) ⟨Nat.le_of_ble_eq_true rfl, Nat.le_of_ble_eq_true rfl⟩) ⟨PRE_blind, va_recv hK hP (ci := 5) (q0 := 0) rfl rfl, PRE_ok [0] (by decide) hP (va_D_adr hD rfl) hA hS hK hN hZ⟩ rfl rfl hl.1 rfl (lv_room (Nat.le_of_ble_eq_true rfl)) dX5_load_25 ⟨Nat.le_of_ble_eq_true rfl, Nat.le_of_ble_eq_true rfl⟩) rfl 1 rfl (by decide) (by decide) (fun H locs hP hS => ?_)
        refine lv_istore_n (lv' := [(2, .int (bI o54.1)), (0, .ref (g b)), (1, .int v46)]) hx hb dX5_load_28 rfl hl (by decide) rfl (fun ls hl => ?_)
        obtain ⟨x55, ex55⟩ : ∃ z : Int32, z = v46 + (1 : Int32) := ⟨_, rfl⟩
        replace hf := nm_i hf ex55
        refine lv_iinc (v := x55) (lv' := [(1, .int x55), (2, .int (bI o54.1)), (0, .ref (g b))]) hx hb dX5_load_29 hl (k := 2) rfl (by rw [ex55]; rfl) (by decide) rfl (fun ls hl => ?_)
        refine lv_goto (tgt := 13) hx hb dX5_load_32 (by decide) ?_
        exact ih _ _ _ _ hf _ _ _ hP hS (lv_sub hl [2, 0, 1] rfl) kx
  refine hL13 fu _ _ _ _ hz50 _ _ _ hP hS (lv_sub hl [2, 1, 0] rfl) (fun H locs ls hP hS hl => ?_)
  refine lv_iconst (v := 0) hx hb dX5_load_35 (by decide) ?_
  refine lv_istore_n (lv' := [(3, .int ((0 : Int32))), (0, .ref (g b)), (1, .int z50.1), (2, .int z50.2.1)]) hx hb dX5_load_36 rfl hl (by decide) rfl (fun ls hl => ?_)
  obtain ⟨z71, hz71, hf⟩ := bd_i hf
  have hL37 : ∀ (n : Nat) (v68 : Int32) (u69 : TM) (z70 : TM), lf_X5_load_37 fu  n v68 u69 = some z70 → ∀ (H : Heap) (locs : List Loc) (ls : Array Slot), va_P D vwCl (List.flatten [wM cT g b u69]) H → va_S A s.heap H locs → lv_has ls 5 [(0, .ref (g b)), (1, .int z50.1), (2, .int z50.2.1), (3, .int v68)] → (∀ (H : Heap) (locs : List Loc) (ls : Array Slot), va_P D vwCl (List.flatten [wM cT g b z70]) H → va_S A s.heap H locs → lv_has ls 5 [(0, .ref (g b)), (1, .int z50.1), (2, .int z50.2.1)] → W p l e rm_X5_load s m args below meth c H locs 0 0 Q (F0 m 78 ls [])) → W p l e rm_X5_load s m args below meth c H locs 0 0 Q (F0 m 37 ls []) := by
    refine lq_2_ind (F := lb_X5_load_37 fu ) (fun rec ih v68 u69 z70 hf H locs ls hP hS hl kx => ?_)
    unfold lb_X5_load_37 at hf
    refine lv_iload_n hx hb dX5_load_37 rfl (lv_at hl 3 rfl) ?_
    refine lv_sipush (v := 281) hx hb dX5_load_38 (by decide) ?_
    refine lv_icmp_ge (tgt := 78) hx hb dX5_load_41 (by decide) (fun c72 => ?_) (fun c72 => ?_)
    · replace hf := it_t hf c72
      obtain rfl := Option.some.inj hf
      exact kx _ _ _ hP hS (lv_sub hl [0, 1, 2] rfl)
    · replace hf := it_f hf c72
      refine lv_aload_n hx hb dX5_load_44 rfl (lv_at hl 0 rfl) ?_
      refine va_get (ci := 5) (v := .ref (g (b + 1))) (C := RX5) (T := TX5) (N := 12) hx hb hts iw_X5_load_X5 hown hK hP 0 rfl rfl 0 (by decide) (hts (.fieldLink RX5 7 "BallastTrackModel" "s" "[I") (List.mem_of_getElem? (i := 2) rfl)) (fun _ h9 => h9) rfl dX5_load_45 ?_
      refine lv_iload_n hx hb dX5_load_48 rfl (lv_at hl 3 rfl) ?_
      obtain ⟨hi73, hf⟩ := ix_i hf
      refine va_iald hx hb hK hP 1 0 rfl rfl hi73 dX5_load_49 ?_
      refine lv_topi (fun x74 ex74 => ?_)
      replace hf := nm_i hf ex74
      refine lv_istore (lv' := [(4, .int x74), (0, .ref (g b)), (1, .int z50.1), (2, .int z50.2.1), (3, .int v68)]) hx hb dX5_load_50 hl (by decide) rfl (fun ls hl => ?_)
      refine lv_aload_n hx hb dX5_load_52 rfl (lv_at hl 1 rfl) ?_
      refine va_get (ci := 5) (v := .ref (g (b + 1))) (C := RX5) (T := TX5) (N := 12) hx hb hts iw_X5_load_X5 hown hK hP 0 rfl rfl 0 (by decide) (hts (.fieldLink RX5 7 "BallastTrackModel" "s" "[I") (List.mem_of_getElem? (i := 2) rfl)) (fun _ h9 => h9) rfl dX5_load_53 ?_
      refine lv_iload_n hx hb dX5_load_56 rfl (lv_at hl 4 rfl) ?_
      refine lv_aload_n hx hb dX5_load_57 rfl (lv_at hl 1 rfl) ?_
      refine va_get (ci := 5) (v := .ref (g (b + 4))) (C := RX5) (T := TX5) (N := 12) hx hb hts iw_X5_load_X5 hown hK hP 0 rfl rfl 5 (by decide) (hts (.fieldLink RX5 19 "BallastTrackModel" "aside" "[I") (List.mem_of_getElem? (i := 3) rfl)) (fun _ h9 => h9) rfl dX5_load_58 ?_
      refine lv_iload_n hx hb dX5_load_61 rfl (lv_at hl 4 rfl) ?_
      obtain ⟨hi75, hf⟩ := ix_i hf
      refine va_iald hx hb hK hP 4 0 rfl rfl hi75 dX5_load_62 ?_
      refine lv_topi (fun x76 ex76 => ?_)
      replace hf := nm_i hf ex76
      obtain ⟨hi77, hf⟩ := ix_i hf
      refine va_iast hx hb hK hP (va_D_adr hD rfl) hS 1 0 rfl rfl hi77 dX5_load_63 (fun H locs hP _ hS => ?_)
      obtain ⟨u78, eu78⟩ : ∃ z : TM, z = M_ss_ u69 (upd (M_ss u69) v68.toNatClampNeg x76) := ⟨_, rfl⟩
      replace hf := nm_i hf eu78
      have hP : va_P D vwCl (List.flatten [wM cT g b u78]) H := by rw [eu78]; exact hP
      refine lv_aload_n hx hb dX5_load_64 rfl (lv_at hl 1 rfl) ?_
      refine va_get (ci := 5) (v := .ref (g (b + 4))) (C := RX5) (T := TX5) (N := 12) hx hb hts iw_X5_load_X5 hown hK hP 0 rfl rfl 5 (by decide) (hts (.fieldLink RX5 19 "BallastTrackModel" "aside" "[I") (List.mem_of_getElem? (i := 3) rfl)) (fun _ h9 => h9) rfl dX5_load_65 ?_
      refine lv_iload_n hx hb dX5_load_68 rfl (lv_at hl 4 rfl) ?_
      refine lv_iload hx hb dX5_load_69 (lv_at hl 0 rfl) ?_
      obtain ⟨hi79, hf⟩ := ix_i hf
      refine va_iast hx hb hK hP (va_D_adr hD rfl) hS 4 0 rfl rfl hi79 dX5_load_71 (fun H locs hP _ hS => ?_)
      obtain ⟨u80, eu80⟩ : ∃ z : TM, z = M_as_ u78 (upd (M_as u78) v68.toNatClampNeg x74) := ⟨_, rfl⟩
      replace hf := nm_i hf eu80
      have hP : va_P D vwCl (List.flatten [wM cT g b u80]) H := by rw [eu80]; exact hP
      obtain ⟨x81, ex81⟩ : ∃ z : Int32, z = v68 + (1 : Int32) := ⟨_, rfl⟩
      replace hf := nm_i hf ex81
      refine lv_iinc (v := x81) (lv' := [(3, .int x81), (4, .int x74), (0, .ref (g b)), (1, .int z50.1), (2, .int z50.2.1)]) hx hb dX5_load_72 hl (k := 4) rfl (by rw [ex81]; rfl) (by decide) rfl (fun ls hl => ?_)
      refine lv_goto (tgt := 37) hx hb dX5_load_75 (by decide) ?_
      exact ih _ _ _ hf _ _ _ hP hS (lv_sub hl [2, 3, 4, 0] rfl) kx
  refine hL37 fu _ _ _ hz71 _ _ _ hP hS (lv_sub hl [1, 2, 3, 0] rfl) (fun H locs ls hP hS hl => ?_)
  refine lv_iload_n hx hb dX5_load_78 rfl (lv_at hl 2 rfl) ?_
  refine lv_if_ne (tgt := 90) hx hb dX5_load_79 (by decide) (fun c82 => ?_) (fun c82 => ?_)
  · replace hf := it_t hf c82
    refine lv_aload_n hx hb dX5_load_90 rfl (lv_at hl 0 rfl) ?_
    obtain ⟨o83, ho83, hf⟩ := bd_i hf
    refine cl_v [0] [] [wM cT g b o83] hP (va_D_adr hD rfl) hA hS (va_runV (As := []) (rest := []) ⟨hx, hb, hml, hown, hts⟩ (c_X5_notes l D cT g b fu z71  o83 ho83 _) (cwV 0 hts gX5_load_X5_notes rfl rfl rfl (by decide +kernel) ⟨Nat.le_of_ble_eq_true rfl, Nat.le_of_ble_eq_true rfl⟩) ⟨PRE_blind, va_recv hK hP (ci := 5) (q0 := 0) rfl rfl, PRE_ok [0] (by decide) hP (va_D_adr hD rfl) hA hS hK hN hZ⟩ rfl rfl hl.1 rfl (lv_room (Nat.le_of_ble_eq_true rfl)) dX5_load_91 ⟨Nat.le_of_ble_eq_true rfl, Nat.le_of_ble_eq_true rfl⟩) rfl 1 rfl (by decide) (by decide) (fun H locs hP hS => ?_)
    refine lv_aload_n hx hb dX5_load_94 rfl (lv_at hl 0 rfl) ?_
    obtain ⟨o84, ho84, hf⟩ := bd_i hf
    refine cl_v [0] [] [wM cT g b o84] hP (va_D_adr hD rfl) hA hS (va_runV (As := []) (rest := []) ⟨hx, hb, hml, hown, hts⟩ (c_X5_putBack l D cT g b fu o83  o84 ho84 _) (cwV 0 hts gX5_load_X5_putBack rfl rfl rfl (by decide +kernel) ⟨Nat.le_of_ble_eq_true rfl, Nat.le_of_ble_eq_true rfl⟩) ⟨PRE_blind, va_recv hK hP (ci := 5) (q0 := 0) rfl rfl, PRE_ok [0] (by decide) hP (va_D_adr hD rfl) hA hS hK hN hZ⟩ rfl rfl hl.1 rfl (lv_room (Nat.le_of_ble_eq_true rfl)) dX5_load_95 ⟨Nat.le_of_ble_eq_true rfl, Nat.le_of_ble_eq_true rfl⟩) rfl 1 rfl (by decide) (by decide) (fun H locs hP hS => ?_)
    refine lv_aload_n hx hb dX5_load_98 rfl (lv_at hl 0 rfl) ?_
    refine lv_iconst (v := 0) hx hb dX5_load_99 (by decide) ?_
    refine va_put (ci := 5) (v := .int ((0 : Int32))) (ty := .int) (C := RX5) (T := TX5) (N := 12) hx hb hts iw_X5_load_X5 tyX5 tyX5_ok nmX5 hown hK hP (va_D_adr hD rfl) hS 0 rfl rfl 7 (by decide) (hts (.fieldLink RX5 83 "BallastTrackModel" "typed" "I") (List.mem_of_getElem? (i := 5) rfl)) (fun _ h9 => h9) rfl (by decide +kernel) rfl rfl (Nat.le_of_ble_eq_true rfl) dX5_load_100 (fun H locs hP _ hS => ?_)
    obtain ⟨u85, eu85⟩ : ∃ z : TM, z = M_ty_ o84 ((0 : Int32)) := ⟨_, rfl⟩
    replace hf := nm_i hf eu85
    have hP : va_P D vwCl (List.flatten [wM cT g b u85]) H := by rw [eu85]; exact hP
    refine lv_iload_n hx hb dX5_load_103 rfl (lv_at hl 1 rfl) ?_
    obtain rfl := Option.some.inj hf
    subst hQ
    exact en_i hx hb hr hP hS hlocks dX5_load_104
  · replace hf := it_f hf (not_not_intro c82)
    refine lv_ldc (v := -200000) hx hb hown (hts (.constant RX5 110 (-200000)) (List.mem_of_getElem? (i := 4) rfl)) dX5_load_82 ?_
    refine lv_aload_n hx hb dX5_load_84 rfl (lv_at hl 0 rfl) ?_
    refine va_get (ci := 5) (v := .int (M_at z71)) (C := RX5) (T := TX5) (N := 12) hx hb hts iw_X5_load_X5 hown hK hP 0 rfl rfl 10 (by decide) (hts (.fieldLink RX5 87 "BallastTrackModel" "at" "I") (List.mem_of_getElem? (i := 1) rfl)) (fun _ h9 => h9) rfl dX5_load_85 ?_
    refine lv_topi (fun x86 ex86 => ?_)
    replace hf := nm_i hf ex86
    refine lv_isub hx hb dX5_load_88 ?_
    refine lv_topi (fun x87 ex87 => ?_)
    replace hf := nm_i hf ex87
    obtain rfl := Option.some.inj hf
    subst hQ
    exact en_i hx hb hr hP hS hlocks dX5_load_89
theorem iw_X5_renew_X5 : ∀ w ∈ u_ws RX5 TX5 12, w ∈ wsX5_renew := by decide +kernel
def lb_X5_renew_36 (fu : Nat) (p1 : Int32) (rec : Int32 → Int32 → TM → Option (Int32 × TM)) (v43 : Int32) (v44 : Int32) (u45 : TM) : Option (Int32 × TM) :=
if p1 < v44 then (
some (v43, u45)
)
else (
nm ((101 : Int32) + v44) fun (x49 : Int32) =>
ix x49 281 <|
nm ((M_ss u45) x49.toNatClampNeg) fun (x51 : Int32) =>
nm (v43 + x51) fun (x52 : Int32) =>
nm ((101 : Int32) + v44) fun (x53 : Int32) =>
ix x53 281 <|
nm (M_ss_ u45 (upd (M_ss u45) x53.toNatClampNeg ((0 : Int32)))) fun (u55 : TM) =>
nm (v44 + (1 : Int32)) fun (x56 : Int32) =>
rec x52 x56 u55
)

def lf_X5_renew_36 (fu : Nat) (p1 : Int32) : Nat → Int32 → Int32 → TM → Option (Int32 × TM) := lq_3 (lb_X5_renew_36 fu p1)
def f_X5_renew (fu : Nat) (u_mo : TM) (p0 : Int32) (p1 : Int32) : Option (Int32 × TM) :=
bd (f_X5_isSleeper fu u_mo p0) fun (o24 : Bool) =>
if bI o24 = 0 then (
some ((-100001 : Int32), u_mo)
)
else (
nm (M_ss u_mo 0) fun (x26 : Int32) =>
nm (x26 - (1 : Int32)) fun (x27 : Int32) =>
bd (f_X5_in fu  p1 p0 x27) fun (o28 : Bool) =>
if ¬ bI o28 = 0 then (
bd (f_X5_notes fu u_mo ) fun (o30 : TM) =>
bd (lf_X5_renew_36 fu p1 fu ((0 : Int32)) p0 o30) fun (z47 : Int32 × TM) =>
some (z47.1, z47.2)
)
else (
some ((-100001 : Int32), u_mo)
)
)

abbrev rm_X5_renew : Room := { frames := 2, cells := 0, slots := 0, locals := 43 }
set_option maxHeartbeats 4000000 in
set_option maxRecDepth 100000 in
theorem c_X5_renew (l : Launch) (D : va_G) (cT : Nat → ClassId) (g : Nat → Nat) (b : Nat) (fu : Nat) (u_mo : TM) (p0 : Int32) (p1 : Int32) (o : Int32 × TM) (hf : f_X5_renew fu u_mo p0 p1 = some o) (sz : Nat) : Met l yX5_renew wsX5_renew rm_X5_renew (va_Pc [.ref (g b), .int p0, .int p1] (PRE D cT sz (List.flatten [wM cT g b u_mo]))) (QI D o.1 (List.flatten [wM cT g b o.2]) (va_A (List.flatten [wM cT g b u_mo]) sz)) 0 0 (va_A (List.flatten [wM cT g b u_mo]) sz) := by
  refine Met.ofW (cc := cX5_renew) (maxL := 5) (ret := (some .int)) (by decide) rfl ?_
  intro p e s m args below meth c s₁ B0 hml hv
  obtain ⟨hav, hsz, hP, hK, hD, hN, hZ⟩ := hv
  have hx := B0.exec
  have hb := B0.bytes
  have hr := B0.returns
  have hts := atoms_spec (ws := wsX5_renew) B0.pre
  have hown : s.vm.findClass RX5 = some m.cls := findClass_of_methodNamed B0.named
  have hlocks := B0.notSynchronized
  subst hsz
  have hD := hD.self (sz := s.heap.size)
  have hA : ∀ q : Nat, s.heap.size ≤ q → va_A (List.flatten [wM cT g b u_mo]) s.heap.size q := fun q h => Or.inr h
  generalize va_A (List.flatten [wM cT g b u_mo]) s.heap.size = A at hD hZ hA ⊢
  have hS : va_S A s.heap s.heap [] := va_S.rf
  have hl := lv_entry ([.ref (g b), .int p0, .int p1]) (n := 5) (Nat.le_of_ble_eq_true rfl)
  rw [hav]
  rw [lg_entry_eq]
  generalize (lg_sl ([.ref (g b), .int p0, .int p1]) ++ List.replicate (5 - (lg_sl ([.ref (g b), .int p0, .int p1])).length) Slot.unset).toArray = ls at hl ⊢
  have hl : lv_has ls 5 [(0, .ref (g b)), (1, .int p0), (2, .int p1)] := hl
  rw [← hav]
  generalize hQ : MQ below _ _ _ _ _ _ = Q
  show W p l e rm_X5_renew s m args below meth c s.heap [] 0 0 Q (F0 m 0 ls [])
  unfold f_X5_renew at hf
  refine lv_aload_n hx hb dX5_renew_0 rfl (lv_at hl 0 rfl) ?_
  refine lv_iload_n hx hb dX5_renew_1 rfl (lv_at hl 1 rfl) ?_
  obtain ⟨o24, ho24, hf⟩ := bd_i hf
  refine cl_i [0] [] [wM cT g b u_mo] hP (va_D_adr hD rfl) hA hS (va_runV (As := [.int p0]) (rest := []) ⟨hx, hb, hml, hown, hts⟩ (c_X5_isSleeper l D cT g b fu u_mo p0 o24 ho24 _) (cwV 1 hts gX5_renew_X5_isSleeper rfl rfl rfl (by decide +kernel) ⟨Nat.le_of_ble_eq_true rfl, Nat.le_of_ble_eq_true rfl⟩) ⟨PRE_blind, va_recv hK hP (ci := 5) (q0 := 0) rfl rfl, PRE_ok [0] (by decide) hP (va_D_adr hD rfl) hA hS hK hN hZ⟩ rfl rfl hl.1 rfl (lv_room (Nat.le_of_ble_eq_true rfl)) dX5_renew_2 ⟨Nat.le_of_ble_eq_true rfl, Nat.le_of_ble_eq_true rfl⟩) rfl 1 rfl (by decide) (by decide) (fun H locs hP hS => ?_)
  refine lv_if_eq (tgt := 24) hx hb dX5_renew_5 (by decide) (fun c25 => ?_) (fun c25 => ?_)
  · replace hf := it_t hf c25
    refine lv_ldc (v := -100001) hx hb hown (hts (.constant RX5 68 (-100001)) (List.mem_of_getElem? (i := 2) rfl)) dX5_renew_24 ?_
    obtain rfl := Option.some.inj hf
    subst hQ
    exact en_i hx hb hr hP hS hlocks dX5_renew_26
  · replace hf := it_f hf c25
    refine lv_iload_n hx hb dX5_renew_8 rfl (lv_at hl 2 rfl) ?_
    refine lv_iload_n hx hb dX5_renew_9 rfl (lv_at hl 1 rfl) ?_
    refine lv_aload_n hx hb dX5_renew_10 rfl (lv_at hl 0 rfl) ?_
    refine va_get (ci := 5) (v := .ref (g (b + 1))) (C := RX5) (T := TX5) (N := 12) hx hb hts iw_X5_renew_X5 hown hK hP 0 rfl rfl 0 (by decide) (hts (.fieldLink RX5 7 "BallastTrackModel" "s" "[I") (List.mem_of_getElem? (i := 1) rfl)) (fun _ h9 => h9) rfl dX5_renew_11 ?_
    refine lv_iconst (v := 0) hx hb dX5_renew_14 (by decide) ?_
    refine va_iald hx hb hK hP 1 0 rfl rfl (by unfold vp_in; decide) dX5_renew_15 ?_
    refine lv_topi (fun x26 ex26 => ?_)
    replace hf := nm_i hf ex26
    refine lv_iconst (v := 1) hx hb dX5_renew_16 (by decide) ?_
    refine lv_isub hx hb dX5_renew_17 ?_
    refine lv_topi (fun x27 ex27 => ?_)
    replace hf := nm_i hf ex27
    obtain ⟨o28, ho28, hf⟩ := bd_i hf
    refine cl_i [] [0] [wM cT g b u_mo] hP (va_D_adr hD rfl) hA hS (va_runS (As := [.int p1, .int p0, .int x27]) (rest := []) ⟨hx, hb, hml, hown, hts⟩ (c_X5_in l D cT g  fu  p1 p0 x27 o28 ho28 _) (va_cwS 3 hts gX5_renew_X5_in rfl rfl rfl (by decide +kernel) ⟨Nat.le_of_ble_eq_true rfl, Nat.le_of_ble_eq_true rfl⟩) ⟨PRE_blind, PRE_ok [] (by decide) hP (va_D_adr hD rfl) hA hS hK hN hZ⟩ rfl rfl hl.1 rfl (lv_room (Nat.le_of_ble_eq_true rfl)) dX5_renew_18 ⟨Nat.le_of_ble_eq_true rfl, Nat.le_of_ble_eq_true rfl⟩) rfl 1 rfl (by decide) (by decide) (fun H locs hP hS => ?_)
    refine lv_if_ne (tgt := 27) hx hb dX5_renew_21 (by decide) (fun c29 => ?_) (fun c29 => ?_)
    · replace hf := it_t hf c29
      refine lv_aload_n hx hb dX5_renew_27 rfl (lv_at hl 0 rfl) ?_
      obtain ⟨o30, ho30, hf⟩ := bd_i hf
      refine cl_v [0] [] [wM cT g b o30] hP (va_D_adr hD rfl) hA hS (va_runV (As := []) (rest := []) ⟨hx, hb, hml, hown, hts⟩ (c_X5_notes l D cT g b fu u_mo  o30 ho30 _) (cwV 0 hts gX5_renew_X5_notes rfl rfl rfl (by decide +kernel) ⟨Nat.le_of_ble_eq_true rfl, Nat.le_of_ble_eq_true rfl⟩) ⟨PRE_blind, va_recv hK hP (ci := 5) (q0 := 0) rfl rfl, PRE_ok [0] (by decide) hP (va_D_adr hD rfl) hA hS hK hN hZ⟩ rfl rfl hl.1 rfl (lv_room (Nat.le_of_ble_eq_true rfl)) dX5_renew_28 ⟨Nat.le_of_ble_eq_true rfl, Nat.le_of_ble_eq_true rfl⟩) rfl 1 rfl (by decide) (by decide) (fun H locs hP hS => ?_)
      refine lv_iconst (v := 0) hx hb dX5_renew_31 (by decide) ?_
      refine lv_istore_n (lv' := [(3, .int ((0 : Int32))), (0, .ref (g b)), (1, .int p0), (2, .int p1)]) hx hb dX5_renew_32 rfl hl (by decide) rfl (fun ls hl => ?_)
      refine lv_iload_n hx hb dX5_renew_33 rfl (lv_at hl 2 rfl) ?_
      refine lv_istore (lv' := [(4, .int p0), (3, .int ((0 : Int32))), (0, .ref (g b)), (1, .int p0), (2, .int p1)]) hx hb dX5_renew_34 hl (by decide) rfl (fun ls hl => ?_)
      obtain ⟨z47, hz47, hf⟩ := bd_i hf
      have hL36 : ∀ (n : Nat) (v43 : Int32) (v44 : Int32) (u45 : TM) (z46 : Int32 × TM), lf_X5_renew_36 fu p1 n v43 v44 u45 = some z46 → ∀ (H : Heap) (locs : List Loc) (ls : Array Slot), va_P D vwCl (List.flatten [wM cT g b u45]) H → va_S A s.heap H locs → lv_has ls 5 [(0, .ref (g b)), (2, .int p1), (3, .int v43), (4, .int v44)] → (∀ (H : Heap) (locs : List Loc) (ls : Array Slot), va_P D vwCl (List.flatten [wM cT g b z46.2]) H → va_S A s.heap H locs → lv_has ls 5 [(3, .int z46.1)] → W p l e rm_X5_renew s m args below meth c H locs 0 0 Q (F0 m 72 ls [])) → W p l e rm_X5_renew s m args below meth c H locs 0 0 Q (F0 m 36 ls []) := by
        refine lq_3_ind (F := lb_X5_renew_36 fu p1) (fun rec ih v43 v44 u45 z46 hf H locs ls hP hS hl kx => ?_)
        unfold lb_X5_renew_36 at hf
        refine lv_iload hx hb dX5_renew_36 (lv_at hl 3 rfl) ?_
        refine lv_iload_n hx hb dX5_renew_38 rfl (lv_at hl 1 rfl) ?_
        refine lv_icmp_gt (tgt := 72) hx hb dX5_renew_39 (by decide) (fun c48 => ?_) (fun c48 => ?_)
        · replace hf := it_t hf c48
          obtain rfl := Option.some.inj hf
          exact kx _ _ _ hP hS (lv_sub hl [2] rfl)
        · replace hf := it_f hf c48
          refine lv_iload_n hx hb dX5_renew_42 rfl (lv_at hl 2 rfl) ?_
          refine lv_aload_n hx hb dX5_renew_43 rfl (lv_at hl 0 rfl) ?_
          refine va_get (ci := 5) (v := .ref (g (b + 1))) (C := RX5) (T := TX5) (N := 12) hx hb hts iw_X5_renew_X5 hown hK hP 0 rfl rfl 0 (by decide) (hts (.fieldLink RX5 7 "BallastTrackModel" "s" "[I") (List.mem_of_getElem? (i := 1) rfl)) (fun _ h9 => h9) rfl dX5_renew_44 ?_
          refine lv_bipush (v := 101) hx hb dX5_renew_47 (by decide) ?_
          refine lv_iload hx hb dX5_renew_49 (lv_at hl 3 rfl) ?_
          refine lv_iadd hx hb dX5_renew_51 ?_
          refine lv_topi (fun x49 ex49 => ?_)
          replace hf := nm_i hf ex49
          obtain ⟨hi50, hf⟩ := ix_i hf
          refine va_iald hx hb hK hP 1 0 rfl rfl hi50 dX5_renew_52 ?_
          refine lv_topi (fun x51 ex51 => ?_)
          replace hf := nm_i hf ex51
          refine lv_iadd hx hb dX5_renew_53 ?_
          refine lv_topi (fun x52 ex52 => ?_)
          replace hf := nm_i hf ex52
          refine lv_istore_n (lv' := [(3, .int x52), (0, .ref (g b)), (2, .int p1), (4, .int v44)]) hx hb dX5_renew_54 rfl hl (by decide) rfl (fun ls hl => ?_)
          refine lv_aload_n hx hb dX5_renew_55 rfl (lv_at hl 1 rfl) ?_
          refine va_get (ci := 5) (v := .ref (g (b + 1))) (C := RX5) (T := TX5) (N := 12) hx hb hts iw_X5_renew_X5 hown hK hP 0 rfl rfl 0 (by decide) (hts (.fieldLink RX5 7 "BallastTrackModel" "s" "[I") (List.mem_of_getElem? (i := 1) rfl)) (fun _ h9 => h9) rfl dX5_renew_56 ?_
          refine lv_bipush (v := 101) hx hb dX5_renew_59 (by decide) ?_
          refine lv_iload hx hb dX5_renew_61 (lv_at hl 3 rfl) ?_
          refine lv_iadd hx hb dX5_renew_63 ?_
          refine lv_topi (fun x53 ex53 => ?_)
          replace hf := nm_i hf ex53
          refine lv_iconst (v := 0) hx hb dX5_renew_64 (by decide) ?_
          obtain ⟨hi54, hf⟩ := ix_i hf
          refine va_iast hx hb hK hP (va_D_adr hD rfl) hS 1 0 rfl rfl hi54 dX5_renew_65 (fun H locs hP _ hS => ?_)
          obtain ⟨u55, eu55⟩ : ∃ z : TM, z = M_ss_ u45 (upd (M_ss u45) x53.toNatClampNeg ((0 : Int32))) := ⟨_, rfl⟩
          replace hf := nm_i hf eu55
          have hP : va_P D vwCl (List.flatten [wM cT g b u55]) H := by rw [eu55]; exact hP
          obtain ⟨x56, ex56⟩ : ∃ z : Int32, z = v44 + (1 : Int32) := ⟨_, rfl⟩
          replace hf := nm_i hf ex56
          refine lv_iinc (v := x56) (lv' := [(4, .int x56), (3, .int x52), (0, .ref (g b)), (2, .int p1)]) hx hb dX5_renew_66 hl (k := 3) rfl (by rw [ex56]; rfl) (by decide) rfl (fun ls hl => ?_)
          refine lv_goto (tgt := 36) hx hb dX5_renew_69 (by decide) ?_
          exact ih _ _ _ _ hf _ _ _ hP hS (lv_sub hl [2, 3, 1, 0] rfl) kx
      refine hL36 fu _ _ _ _ hz47 _ _ _ hP hS (lv_sub hl [2, 4, 1, 0] rfl) (fun H locs ls hP hS hl => ?_)
      refine lv_iload_n hx hb dX5_renew_72 rfl (lv_at hl 0 rfl) ?_
      obtain rfl := Option.some.inj hf
      subst hQ
      exact en_i hx hb hr hP hS hlocks dX5_renew_73
    · replace hf := it_f hf (not_not_intro c29)
      refine lv_ldc (v := -100001) hx hb hown (hts (.constant RX5 68 (-100001)) (List.mem_of_getElem? (i := 2) rfl)) dX5_renew_24 ?_
      obtain rfl := Option.some.inj hf
      subst hQ
      exact en_i hx hb hr hP hS hlocks dX5_renew_26
theorem iw_X5_jobOf_X5 : ∀ w ∈ u_ws RX5 TX5 12, w ∈ wsX5_jobOf := by decide +kernel
def f_X5_jobOf (fu : Nat) (u_mo : TM) (p0 : Int32) (p1 : Int32) : Option (Int32) :=
nm ((4 : Int32) * p0) fun (x6 : Int32) =>
nm ((17 : Int32) + x6) fun (x7 : Int32) =>
nm (x7 + p1) fun (x8 : Int32) =>
ix x8 281 <|
nm ((M_ss u_mo) x8.toNatClampNeg) fun (x10 : Int32) =>
some (x10)

abbrev rm_X5_jobOf : Room := { frames := 0, cells := 0, slots := 0, locals := 0 }
set_option maxHeartbeats 4000000 in
set_option maxRecDepth 100000 in
theorem c_X5_jobOf (l : Launch) (D : va_G) (cT : Nat → ClassId) (g : Nat → Nat) (b : Nat) (fu : Nat) (u_mo : TM) (p0 : Int32) (p1 : Int32) (o : Int32) (hf : f_X5_jobOf fu u_mo p0 p1 = some o) (sz : Nat) : Met l yX5_jobOf wsX5_jobOf rm_X5_jobOf (va_Pc [.ref (g b), .int p0, .int p1] (PRE D cT sz (List.flatten [wM cT g b u_mo]))) (QI D o (List.flatten [wM cT g b u_mo]) (va_A (List.flatten [wM cT g b u_mo]) sz)) 0 0 (va_A (List.flatten [wM cT g b u_mo]) sz) := by
  refine Met.ofW (cc := cX5_jobOf) (maxL := 3) (ret := (some .int)) (by decide) rfl ?_
  intro p e s m args below meth c s₁ B0 hml hv
  obtain ⟨hav, hsz, hP, hK, hD, hN, hZ⟩ := hv
  have hx := B0.exec
  have hb := B0.bytes
  have hr := B0.returns
  have hts := atoms_spec (ws := wsX5_jobOf) B0.pre
  have hown : s.vm.findClass RX5 = some m.cls := findClass_of_methodNamed B0.named
  have hlocks := B0.notSynchronized
  subst hsz
  have hD := hD.self (sz := s.heap.size)
  have hA : ∀ q : Nat, s.heap.size ≤ q → va_A (List.flatten [wM cT g b u_mo]) s.heap.size q := fun q h => Or.inr h
  generalize va_A (List.flatten [wM cT g b u_mo]) s.heap.size = A at hD hZ hA ⊢
  have hS : va_S A s.heap s.heap [] := va_S.rf
  have hl := lv_entry ([.ref (g b), .int p0, .int p1]) (n := 3) (Nat.le_of_ble_eq_true rfl)
  rw [hav]
  rw [lg_entry_eq]
  generalize (lg_sl ([.ref (g b), .int p0, .int p1]) ++ List.replicate (3 - (lg_sl ([.ref (g b), .int p0, .int p1])).length) Slot.unset).toArray = ls at hl ⊢
  have hl : lv_has ls 3 [(0, .ref (g b)), (1, .int p0), (2, .int p1)] := hl
  rw [← hav]
  generalize hQ : MQ below _ _ _ _ _ _ = Q
  show W p l e rm_X5_jobOf s m args below meth c s.heap [] 0 0 Q (F0 m 0 ls [])
  unfold f_X5_jobOf at hf
  refine lv_aload_n hx hb dX5_jobOf_0 rfl (lv_at hl 0 rfl) ?_
  refine va_get (ci := 5) (v := .ref (g (b + 1))) (C := RX5) (T := TX5) (N := 12) hx hb hts iw_X5_jobOf_X5 hown hK hP 0 rfl rfl 0 (by decide) (hts (.fieldLink RX5 7 "BallastTrackModel" "s" "[I") (List.mem_of_getElem? (i := 1) rfl)) (fun _ h9 => h9) rfl dX5_jobOf_1 ?_
  refine lv_bipush (v := 17) hx hb dX5_jobOf_4 (by decide) ?_
  refine lv_iconst (v := 4) hx hb dX5_jobOf_6 (by decide) ?_
  refine lv_iload_n hx hb dX5_jobOf_7 rfl (lv_at hl 1 rfl) ?_
  refine lv_imul hx hb dX5_jobOf_8 ?_
  refine lv_topi (fun x6 ex6 => ?_)
  replace hf := nm_i hf ex6
  refine lv_iadd hx hb dX5_jobOf_9 ?_
  refine lv_topi (fun x7 ex7 => ?_)
  replace hf := nm_i hf ex7
  refine lv_iload_n hx hb dX5_jobOf_10 rfl (lv_at hl 2 rfl) ?_
  refine lv_iadd hx hb dX5_jobOf_11 ?_
  refine lv_topi (fun x8 ex8 => ?_)
  replace hf := nm_i hf ex8
  obtain ⟨hi9, hf⟩ := ix_i hf
  refine va_iald hx hb hK hP 1 0 rfl rfl hi9 dX5_jobOf_12 ?_
  refine lv_topi (fun x10 ex10 => ?_)
  replace hf := nm_i hf ex10
  obtain rfl := Option.some.inj hf
  subst hQ
  exact en_i hx hb hr hP hS hlocks dX5_jobOf_13
theorem iw_X5_addJob_X5 : ∀ w ∈ u_ws RX5 TX5 12, w ∈ wsX5_addJob := by decide +kernel
def f_X5_addJob (fu : Nat) (u_mo : TM) (p0 : Int32) (p1 : Int32) (p2 : Int32) : Option (Int32 × TM) :=
bd (f_X5_isSleeper fu u_mo p0) fun (o30 : Bool) =>
if bI o30 = 0 then (
some ((-100001 : Int32), u_mo)
)
else (
nm (M_ss u_mo 0) fun (x32 : Int32) =>
nm (x32 - (1 : Int32)) fun (x33 : Int32) =>
bd (f_X5_in fu  p1 p0 x33) fun (o34 : Bool) =>
if bI o34 = 0 then (
some ((-100001 : Int32), u_mo)
)
else (
bd (f_X5_isLevel fu  p2) fun (o36 : Bool) =>
if ¬ bI o36 = 0 then (
nm (M_ss u_mo 16) fun (x38 : Int32) =>
if ¬ x38 = (6 : Int32) then (
bd (f_X5_notes fu u_mo ) fun (o40 : TM) =>
nm (M_ss o40 16) fun (x41 : Int32) =>
nm ((4 : Int32) * x41) fun (x42 : Int32) =>
nm ((17 : Int32) + x42) fun (x43 : Int32) =>
ix x43 281 <|
nm (M_ss_ o40 (upd (M_ss o40) x43.toNatClampNeg p0)) fun (u45 : TM) =>
nm (x43 + (1 : Int32)) fun (x46 : Int32) =>
ix x46 281 <|
nm (M_ss_ u45 (upd (M_ss u45) x46.toNatClampNeg p1)) fun (u48 : TM) =>
nm (x43 + (2 : Int32)) fun (x49 : Int32) =>
ix x49 281 <|
nm (M_ss_ u48 (upd (M_ss u48) x49.toNatClampNeg p2)) fun (u51 : TM) =>
nm (x43 + (3 : Int32)) fun (x52 : Int32) =>
ix x52 281 <|
nm (M_ss_ u51 (upd (M_ss u51) x52.toNatClampNeg p0)) fun (u54 : TM) =>
nm (M_ss u54 16) fun (x55 : Int32) =>
nm (x55 + (1 : Int32)) fun (x56 : Int32) =>
nm (M_ss_ u54 (upd (M_ss u54) 16 x56)) fun (u57 : TM) =>
nm (M_ss u57 16) fun (x58 : Int32) =>
some (x58, u57)
)
else (
some ((-100003 : Int32), u_mo)
)
)
else (
some ((-100001 : Int32), u_mo)
)
)
)

abbrev rm_X5_addJob : Room := { frames := 2, cells := 0, slots := 0, locals := 43 }
set_option maxHeartbeats 4000000 in
set_option maxRecDepth 100000 in
theorem c_X5_addJob (l : Launch) (D : va_G) (cT : Nat → ClassId) (g : Nat → Nat) (b : Nat) (fu : Nat) (u_mo : TM) (p0 : Int32) (p1 : Int32) (p2 : Int32) (o : Int32 × TM) (hf : f_X5_addJob fu u_mo p0 p1 p2 = some o) (sz : Nat) : Met l yX5_addJob wsX5_addJob rm_X5_addJob (va_Pc [.ref (g b), .int p0, .int p1, .int p2] (PRE D cT sz (List.flatten [wM cT g b u_mo]))) (QI D o.1 (List.flatten [wM cT g b o.2]) (va_A (List.flatten [wM cT g b u_mo]) sz)) 0 0 (va_A (List.flatten [wM cT g b u_mo]) sz) := by
  refine Met.ofW (cc := cX5_addJob) (maxL := 5) (ret := (some .int)) (by decide) rfl ?_
  intro p e s m args below meth c s₁ B0 hml hv
  obtain ⟨hav, hsz, hP, hK, hD, hN, hZ⟩ := hv
  have hx := B0.exec
  have hb := B0.bytes
  have hr := B0.returns
  have hts := atoms_spec (ws := wsX5_addJob) B0.pre
  have hown : s.vm.findClass RX5 = some m.cls := findClass_of_methodNamed B0.named
  have hlocks := B0.notSynchronized
  subst hsz
  have hD := hD.self (sz := s.heap.size)
  have hA : ∀ q : Nat, s.heap.size ≤ q → va_A (List.flatten [wM cT g b u_mo]) s.heap.size q := fun q h => Or.inr h
  generalize va_A (List.flatten [wM cT g b u_mo]) s.heap.size = A at hD hZ hA ⊢
  have hS : va_S A s.heap s.heap [] := va_S.rf
  have hl := lv_entry ([.ref (g b), .int p0, .int p1, .int p2]) (n := 5) (Nat.le_of_ble_eq_true rfl)
  rw [hav]
  rw [lg_entry_eq]
  generalize (lg_sl ([.ref (g b), .int p0, .int p1, .int p2]) ++ List.replicate (5 - (lg_sl ([.ref (g b), .int p0, .int p1, .int p2])).length) Slot.unset).toArray = ls at hl ⊢
  have hl : lv_has ls 5 [(0, .ref (g b)), (1, .int p0), (2, .int p1), (3, .int p2)] := hl
  rw [← hav]
  generalize hQ : MQ below _ _ _ _ _ _ = Q
  show W p l e rm_X5_addJob s m args below meth c s.heap [] 0 0 Q (F0 m 0 ls [])
  unfold f_X5_addJob at hf
  refine lv_aload_n hx hb dX5_addJob_0 rfl (lv_at hl 0 rfl) ?_
  refine lv_iload_n hx hb dX5_addJob_1 rfl (lv_at hl 1 rfl) ?_
  obtain ⟨o30, ho30, hf⟩ := bd_i hf
  refine cl_i [0] [] [wM cT g b u_mo] hP (va_D_adr hD rfl) hA hS (va_runV (As := [.int p0]) (rest := []) ⟨hx, hb, hml, hown, hts⟩ (c_X5_isSleeper l D cT g b fu u_mo p0 o30 ho30 _) (cwV 1 hts gX5_addJob_X5_isSleeper rfl rfl rfl (by decide +kernel) ⟨Nat.le_of_ble_eq_true rfl, Nat.le_of_ble_eq_true rfl⟩) ⟨PRE_blind, va_recv hK hP (ci := 5) (q0 := 0) rfl rfl, PRE_ok [0] (by decide) hP (va_D_adr hD rfl) hA hS hK hN hZ⟩ rfl rfl hl.1 rfl (lv_room (Nat.le_of_ble_eq_true rfl)) dX5_addJob_2 ⟨Nat.le_of_ble_eq_true rfl, Nat.le_of_ble_eq_true rfl⟩) rfl 1 rfl (by decide) (by decide) (fun H locs hP hS => ?_)
  refine lv_if_eq (tgt := 31) hx hb dX5_addJob_5 (by decide) (fun c31 => ?_) (fun c31 => ?_)
  · replace hf := it_t hf c31
    refine lv_ldc (v := -100001) hx hb hown (hts (.constant RX5 68 (-100001)) (List.mem_of_getElem? (i := 2) rfl)) dX5_addJob_31 ?_
    obtain rfl := Option.some.inj hf
    subst hQ
    exact en_i hx hb hr hP hS hlocks dX5_addJob_33
  · replace hf := it_f hf c31
    refine lv_iload_n hx hb dX5_addJob_8 rfl (lv_at hl 2 rfl) ?_
    refine lv_iload_n hx hb dX5_addJob_9 rfl (lv_at hl 1 rfl) ?_
    refine lv_aload_n hx hb dX5_addJob_10 rfl (lv_at hl 0 rfl) ?_
    refine va_get (ci := 5) (v := .ref (g (b + 1))) (C := RX5) (T := TX5) (N := 12) hx hb hts iw_X5_addJob_X5 hown hK hP 0 rfl rfl 0 (by decide) (hts (.fieldLink RX5 7 "BallastTrackModel" "s" "[I") (List.mem_of_getElem? (i := 1) rfl)) (fun _ h9 => h9) rfl dX5_addJob_11 ?_
    refine lv_iconst (v := 0) hx hb dX5_addJob_14 (by decide) ?_
    refine va_iald hx hb hK hP 1 0 rfl rfl (by unfold vp_in; decide) dX5_addJob_15 ?_
    refine lv_topi (fun x32 ex32 => ?_)
    replace hf := nm_i hf ex32
    refine lv_iconst (v := 1) hx hb dX5_addJob_16 (by decide) ?_
    refine lv_isub hx hb dX5_addJob_17 ?_
    refine lv_topi (fun x33 ex33 => ?_)
    replace hf := nm_i hf ex33
    obtain ⟨o34, ho34, hf⟩ := bd_i hf
    refine cl_i [] [0] [wM cT g b u_mo] hP (va_D_adr hD rfl) hA hS (va_runS (As := [.int p1, .int p0, .int x33]) (rest := []) ⟨hx, hb, hml, hown, hts⟩ (c_X5_in l D cT g  fu  p1 p0 x33 o34 ho34 _) (va_cwS 3 hts gX5_addJob_X5_in rfl rfl rfl (by decide +kernel) ⟨Nat.le_of_ble_eq_true rfl, Nat.le_of_ble_eq_true rfl⟩) ⟨PRE_blind, PRE_ok [] (by decide) hP (va_D_adr hD rfl) hA hS hK hN hZ⟩ rfl rfl hl.1 rfl (lv_room (Nat.le_of_ble_eq_true rfl)) dX5_addJob_18 ⟨Nat.le_of_ble_eq_true rfl, Nat.le_of_ble_eq_true rfl⟩) rfl 1 rfl (by decide) (by decide) (fun H locs hP hS => ?_)
    refine lv_if_eq (tgt := 31) hx hb dX5_addJob_21 (by decide) (fun c35 => ?_) (fun c35 => ?_)
    · replace hf := it_t hf c35
      refine lv_ldc (v := -100001) hx hb hown (hts (.constant RX5 68 (-100001)) (List.mem_of_getElem? (i := 2) rfl)) dX5_addJob_31 ?_
      obtain rfl := Option.some.inj hf
      subst hQ
      exact en_i hx hb hr hP hS hlocks dX5_addJob_33
    · replace hf := it_f hf c35
      refine lv_iload_n hx hb dX5_addJob_24 rfl (lv_at hl 3 rfl) ?_
      obtain ⟨o36, ho36, hf⟩ := bd_i hf
      refine cl_i [] [0] [wM cT g b u_mo] hP (va_D_adr hD rfl) hA hS (va_runS (As := [.int p2]) (rest := []) ⟨hx, hb, hml, hown, hts⟩ (c_X5_isLevel l D cT g  fu  p2 o36 ho36 _) (va_cwS 1 hts gX5_addJob_X5_isLevel rfl rfl rfl (by decide +kernel) ⟨Nat.le_of_ble_eq_true rfl, Nat.le_of_ble_eq_true rfl⟩) ⟨PRE_blind, PRE_ok [] (by decide) hP (va_D_adr hD rfl) hA hS hK hN hZ⟩ rfl rfl hl.1 rfl (lv_room (Nat.le_of_ble_eq_true rfl)) dX5_addJob_25 ⟨Nat.le_of_ble_eq_true rfl, Nat.le_of_ble_eq_true rfl⟩) rfl 1 rfl (by decide) (by decide) (fun H locs hP hS => ?_)
      refine lv_if_ne (tgt := 34) hx hb dX5_addJob_28 (by decide) (fun c37 => ?_) (fun c37 => ?_)
      · replace hf := it_t hf c37
        refine lv_aload_n hx hb dX5_addJob_34 rfl (lv_at hl 0 rfl) ?_
        refine va_get (ci := 5) (v := .ref (g (b + 1))) (C := RX5) (T := TX5) (N := 12) hx hb hts iw_X5_addJob_X5 hown hK hP 0 rfl rfl 0 (by decide) (hts (.fieldLink RX5 7 "BallastTrackModel" "s" "[I") (List.mem_of_getElem? (i := 1) rfl)) (fun _ h9 => h9) rfl dX5_addJob_35 ?_
        refine lv_bipush (v := 16) hx hb dX5_addJob_38 (by decide) ?_
        refine va_iald hx hb hK hP 1 0 rfl rfl (by unfold vp_in; decide) dX5_addJob_40 ?_
        refine lv_topi (fun x38 ex38 => ?_)
        replace hf := nm_i hf ex38
        refine lv_bipush (v := 6) hx hb dX5_addJob_41 (by decide) ?_
        refine lv_icmp_ne (tgt := 49) hx hb dX5_addJob_43 (by decide) (fun c39 => ?_) (fun c39 => ?_)
        · replace hf := it_t hf c39
          refine lv_aload_n hx hb dX5_addJob_49 rfl (lv_at hl 0 rfl) ?_
          obtain ⟨o40, ho40, hf⟩ := bd_i hf
          refine cl_v [0] [] [wM cT g b o40] hP (va_D_adr hD rfl) hA hS (va_runV (As := []) (rest := []) ⟨hx, hb, hml, hown, hts⟩ (c_X5_notes l D cT g b fu u_mo  o40 ho40 _) (cwV 0 hts gX5_addJob_X5_notes rfl rfl rfl (by decide +kernel) ⟨Nat.le_of_ble_eq_true rfl, Nat.le_of_ble_eq_true rfl⟩) ⟨PRE_blind, va_recv hK hP (ci := 5) (q0 := 0) rfl rfl, PRE_ok [0] (by decide) hP (va_D_adr hD rfl) hA hS hK hN hZ⟩ rfl rfl hl.1 rfl (lv_room (Nat.le_of_ble_eq_true rfl)) dX5_addJob_50 ⟨Nat.le_of_ble_eq_true rfl, Nat.le_of_ble_eq_true rfl⟩) rfl 1 rfl (by decide) (by decide) (fun H locs hP hS => ?_)
          refine lv_bipush (v := 17) hx hb dX5_addJob_53 (by decide) ?_
          refine lv_iconst (v := 4) hx hb dX5_addJob_55 (by decide) ?_
          refine lv_aload_n hx hb dX5_addJob_56 rfl (lv_at hl 0 rfl) ?_
          refine va_get (ci := 5) (v := .ref (g (b + 1))) (C := RX5) (T := TX5) (N := 12) hx hb hts iw_X5_addJob_X5 hown hK hP 0 rfl rfl 0 (by decide) (hts (.fieldLink RX5 7 "BallastTrackModel" "s" "[I") (List.mem_of_getElem? (i := 1) rfl)) (fun _ h9 => h9) rfl dX5_addJob_57 ?_
          refine lv_bipush (v := 16) hx hb dX5_addJob_60 (by decide) ?_
          refine va_iald hx hb hK hP 1 0 rfl rfl (by unfold vp_in; decide) dX5_addJob_62 ?_
          refine lv_topi (fun x41 ex41 => ?_)
          replace hf := nm_i hf ex41
          refine lv_imul hx hb dX5_addJob_63 ?_
          refine lv_topi (fun x42 ex42 => ?_)
          replace hf := nm_i hf ex42
          refine lv_iadd hx hb dX5_addJob_64 ?_
          refine lv_topi (fun x43 ex43 => ?_)
          replace hf := nm_i hf ex43
          refine lv_istore (lv' := [(4, .int x43), (0, .ref (g b)), (1, .int p0), (2, .int p1), (3, .int p2)]) hx hb dX5_addJob_65 hl (by decide) rfl (fun ls hl => ?_)
          refine lv_aload_n hx hb dX5_addJob_67 rfl (lv_at hl 1 rfl) ?_
          refine va_get (ci := 5) (v := .ref (g (b + 1))) (C := RX5) (T := TX5) (N := 12) hx hb hts iw_X5_addJob_X5 hown hK hP 0 rfl rfl 0 (by decide) (hts (.fieldLink RX5 7 "BallastTrackModel" "s" "[I") (List.mem_of_getElem? (i := 1) rfl)) (fun _ h9 => h9) rfl dX5_addJob_68 ?_
          refine lv_iload hx hb dX5_addJob_71 (lv_at hl 0 rfl) ?_
          refine lv_iload_n hx hb dX5_addJob_73 rfl (lv_at hl 2 rfl) ?_
          obtain ⟨hi44, hf⟩ := ix_i hf
          refine va_iast hx hb hK hP (va_D_adr hD rfl) hS 1 0 rfl rfl hi44 dX5_addJob_74 (fun H locs hP _ hS => ?_)
          obtain ⟨u45, eu45⟩ : ∃ z : TM, z = M_ss_ o40 (upd (M_ss o40) x43.toNatClampNeg p0) := ⟨_, rfl⟩
          replace hf := nm_i hf eu45
          have hP : va_P D vwCl (List.flatten [wM cT g b u45]) H := by rw [eu45]; exact hP
          refine lv_aload_n hx hb dX5_addJob_75 rfl (lv_at hl 1 rfl) ?_
          refine va_get (ci := 5) (v := .ref (g (b + 1))) (C := RX5) (T := TX5) (N := 12) hx hb hts iw_X5_addJob_X5 hown hK hP 0 rfl rfl 0 (by decide) (hts (.fieldLink RX5 7 "BallastTrackModel" "s" "[I") (List.mem_of_getElem? (i := 1) rfl)) (fun _ h9 => h9) rfl dX5_addJob_76 ?_
          refine lv_iload hx hb dX5_addJob_79 (lv_at hl 0 rfl) ?_
          refine lv_iconst (v := 1) hx hb dX5_addJob_81 (by decide) ?_
          refine lv_iadd hx hb dX5_addJob_82 ?_
          refine lv_topi (fun x46 ex46 => ?_)
          replace hf := nm_i hf ex46
          refine lv_iload_n hx hb dX5_addJob_83 rfl (lv_at hl 3 rfl) ?_
          obtain ⟨hi47, hf⟩ := ix_i hf
          refine va_iast hx hb hK hP (va_D_adr hD rfl) hS 1 0 rfl rfl hi47 dX5_addJob_84 (fun H locs hP _ hS => ?_)
          obtain ⟨u48, eu48⟩ : ∃ z : TM, z = M_ss_ u45 (upd (M_ss u45) x46.toNatClampNeg p1) := ⟨_, rfl⟩
          replace hf := nm_i hf eu48
          have hP : va_P D vwCl (List.flatten [wM cT g b u48]) H := by rw [eu48]; exact hP
          refine lv_aload_n hx hb dX5_addJob_85 rfl (lv_at hl 1 rfl) ?_
          refine va_get (ci := 5) (v := .ref (g (b + 1))) (C := RX5) (T := TX5) (N := 12) hx hb hts iw_X5_addJob_X5 hown hK hP 0 rfl rfl 0 (by decide) (hts (.fieldLink RX5 7 "BallastTrackModel" "s" "[I") (List.mem_of_getElem? (i := 1) rfl)) (fun _ h9 => h9) rfl dX5_addJob_86 ?_
          refine lv_iload hx hb dX5_addJob_89 (lv_at hl 0 rfl) ?_
          refine lv_iconst (v := 2) hx hb dX5_addJob_91 (by decide) ?_
          refine lv_iadd hx hb dX5_addJob_92 ?_
          refine lv_topi (fun x49 ex49 => ?_)
          replace hf := nm_i hf ex49
          refine lv_iload_n hx hb dX5_addJob_93 rfl (lv_at hl 4 rfl) ?_
          obtain ⟨hi50, hf⟩ := ix_i hf
          refine va_iast hx hb hK hP (va_D_adr hD rfl) hS 1 0 rfl rfl hi50 dX5_addJob_94 (fun H locs hP _ hS => ?_)
          obtain ⟨u51, eu51⟩ : ∃ z : TM, z = M_ss_ u48 (upd (M_ss u48) x49.toNatClampNeg p2) := ⟨_, rfl⟩
          replace hf := nm_i hf eu51
          have hP : va_P D vwCl (List.flatten [wM cT g b u51]) H := by rw [eu51]; exact hP
          refine lv_aload_n hx hb dX5_addJob_95 rfl (lv_at hl 1 rfl) ?_
          refine va_get (ci := 5) (v := .ref (g (b + 1))) (C := RX5) (T := TX5) (N := 12) hx hb hts iw_X5_addJob_X5 hown hK hP 0 rfl rfl 0 (by decide) (hts (.fieldLink RX5 7 "BallastTrackModel" "s" "[I") (List.mem_of_getElem? (i := 1) rfl)) (fun _ h9 => h9) rfl dX5_addJob_96 ?_
          refine lv_iload hx hb dX5_addJob_99 (lv_at hl 0 rfl) ?_
          refine lv_iconst (v := 3) hx hb dX5_addJob_101 (by decide) ?_
          refine lv_iadd hx hb dX5_addJob_102 ?_
          refine lv_topi (fun x52 ex52 => ?_)
          replace hf := nm_i hf ex52
          refine lv_iload_n hx hb dX5_addJob_103 rfl (lv_at hl 2 rfl) ?_
          obtain ⟨hi53, hf⟩ := ix_i hf
          refine va_iast hx hb hK hP (va_D_adr hD rfl) hS 1 0 rfl rfl hi53 dX5_addJob_104 (fun H locs hP _ hS => ?_)
          obtain ⟨u54, eu54⟩ : ∃ z : TM, z = M_ss_ u51 (upd (M_ss u51) x52.toNatClampNeg p0) := ⟨_, rfl⟩
          replace hf := nm_i hf eu54
          have hP : va_P D vwCl (List.flatten [wM cT g b u54]) H := by rw [eu54]; exact hP
          refine lv_aload_n hx hb dX5_addJob_105 rfl (lv_at hl 1 rfl) ?_
          refine va_get (ci := 5) (v := .ref (g (b + 1))) (C := RX5) (T := TX5) (N := 12) hx hb hts iw_X5_addJob_X5 hown hK hP 0 rfl rfl 0 (by decide) (hts (.fieldLink RX5 7 "BallastTrackModel" "s" "[I") (List.mem_of_getElem? (i := 1) rfl)) (fun _ h9 => h9) rfl dX5_addJob_106 ?_
          refine lv_bipush (v := 16) hx hb dX5_addJob_109 (by decide) ?_
          refine lv_dup2_11 hx hb dX5_addJob_111 rfl rfl ?_
          refine va_iald hx hb hK hP 1 0 rfl rfl (by unfold vp_in; decide) dX5_addJob_112 ?_
          refine lv_topi (fun x55 ex55 => ?_)
          replace hf := nm_i hf ex55
          refine lv_iconst (v := 1) hx hb dX5_addJob_113 (by decide) ?_
          refine lv_iadd hx hb dX5_addJob_114 ?_
          refine lv_topi (fun x56 ex56 => ?_)
          replace hf := nm_i hf ex56
          refine va_iast hx hb hK hP (va_D_adr hD rfl) hS 1 0 rfl rfl (by unfold vp_in; decide) dX5_addJob_115 (fun H locs hP _ hS => ?_)
          obtain ⟨u57, eu57⟩ : ∃ z : TM, z = M_ss_ u54 (upd (M_ss u54) 16 x56) := ⟨_, rfl⟩
          replace hf := nm_i hf eu57
          have hP : va_P D vwCl (List.flatten [wM cT g b u57]) H := by rw [eu57]; exact hP
          refine lv_aload_n hx hb dX5_addJob_116 rfl (lv_at hl 1 rfl) ?_
          refine va_get (ci := 5) (v := .ref (g (b + 1))) (C := RX5) (T := TX5) (N := 12) hx hb hts iw_X5_addJob_X5 hown hK hP 0 rfl rfl 0 (by decide) (hts (.fieldLink RX5 7 "BallastTrackModel" "s" "[I") (List.mem_of_getElem? (i := 1) rfl)) (fun _ h9 => h9) rfl dX5_addJob_117 ?_
          refine lv_bipush (v := 16) hx hb dX5_addJob_120 (by decide) ?_
          refine va_iald hx hb hK hP 1 0 rfl rfl (by unfold vp_in; decide) dX5_addJob_122 ?_
          refine lv_topi (fun x58 ex58 => ?_)
          replace hf := nm_i hf ex58
          obtain rfl := Option.some.inj hf
          subst hQ
          exact en_i hx hb hr hP hS hlocks dX5_addJob_123
        · replace hf := it_f hf (not_not_intro c39)
          refine lv_ldc (v := -100003) hx hb hown (hts (.constant RX5 86 (-100003)) (List.mem_of_getElem? (i := 3) rfl)) dX5_addJob_46 ?_
          obtain rfl := Option.some.inj hf
          subst hQ
          exact en_i hx hb hr hP hS hlocks dX5_addJob_48
      · replace hf := it_f hf (not_not_intro c37)
        refine lv_ldc (v := -100001) hx hb hown (hts (.constant RX5 68 (-100001)) (List.mem_of_getElem? (i := 2) rfl)) dX5_addJob_31 ?_
        obtain rfl := Option.some.inj hf
        subst hQ
        exact en_i hx hb hr hP hS hlocks dX5_addJob_33
theorem iw_X5_drops_X5 : ∀ w ∈ u_ws RX5 TX5 12, w ∈ wsX5_drops := by decide +kernel
def lb_X5_drops_18 (fu : Nat)  (rec : Int32 → TM → Option (TM)) (v38 : Int32) (u39 : TM) : Option (TM) :=
nm (M_ss u39 16) fun (x42 : Int32) =>
nm ((4 : Int32) * x42) fun (x43 : Int32) =>
nm ((17 : Int32) + x43) fun (x44 : Int32) =>
if x44 ≤ v38 then (
some (u39)
)
else (
nm (v38 + (4 : Int32)) fun (x46 : Int32) =>
ix x46 281 <|
nm ((M_ss u39) x46.toNatClampNeg) fun (x48 : Int32) =>
ix v38 281 <|
nm (M_ss_ u39 (upd (M_ss u39) v38.toNatClampNeg x48)) fun (u50 : TM) =>
nm (v38 + (1 : Int32)) fun (x51 : Int32) =>
rec x51 u50
)

def lf_X5_drops_18 (fu : Nat)  : Nat → Int32 → TM → Option (TM) := lq_2 (lb_X5_drops_18 fu )
def f_X5_drops (fu : Nat) (u_mo : TM) (p0 : Int32) : Option (TM) :=
nm (M_ss u_mo 16) fun (x21 : Int32) =>
nm (x21 - (1 : Int32)) fun (x22 : Int32) =>
nm (M_ss_ u_mo (upd (M_ss u_mo) 16 x22)) fun (u23 : TM) =>
nm ((4 : Int32) * p0) fun (x24 : Int32) =>
nm ((17 : Int32) + x24) fun (x25 : Int32) =>
bd (lf_X5_drops_18 fu  fu x25 u23) fun (z41 : TM) =>
some (z41)

abbrev rm_X5_drops : Room := { frames := 0, cells := 0, slots := 0, locals := 0 }
set_option maxHeartbeats 4000000 in
set_option maxRecDepth 100000 in
theorem c_X5_drops (l : Launch) (D : va_G) (cT : Nat → ClassId) (g : Nat → Nat) (b : Nat) (fu : Nat) (u_mo : TM) (p0 : Int32) (o : TM) (hf : f_X5_drops fu u_mo p0 = some o) (sz : Nat) : Met l yX5_drops wsX5_drops rm_X5_drops (va_Pc [.ref (g b), .int p0] (PRE D cT sz (List.flatten [wM cT g b u_mo]))) (QV D (List.flatten [wM cT g b o]) (va_A (List.flatten [wM cT g b u_mo]) sz)) 0 0 (va_A (List.flatten [wM cT g b u_mo]) sz) := by
  refine Met.ofW (cc := cX5_drops) (maxL := 3) (ret := none) (by decide) rfl ?_
  intro p e s m args below meth c s₁ B0 hml hv
  obtain ⟨hav, hsz, hP, hK, hD, hN, hZ⟩ := hv
  have hx := B0.exec
  have hb := B0.bytes
  have hr := B0.returns
  have hts := atoms_spec (ws := wsX5_drops) B0.pre
  have hown : s.vm.findClass RX5 = some m.cls := findClass_of_methodNamed B0.named
  have hlocks := B0.notSynchronized
  subst hsz
  have hD := hD.self (sz := s.heap.size)
  have hA : ∀ q : Nat, s.heap.size ≤ q → va_A (List.flatten [wM cT g b u_mo]) s.heap.size q := fun q h => Or.inr h
  generalize va_A (List.flatten [wM cT g b u_mo]) s.heap.size = A at hD hZ hA ⊢
  have hS : va_S A s.heap s.heap [] := va_S.rf
  have hl := lv_entry ([.ref (g b), .int p0]) (n := 3) (Nat.le_of_ble_eq_true rfl)
  rw [hav]
  rw [lg_entry_eq]
  generalize (lg_sl ([.ref (g b), .int p0]) ++ List.replicate (3 - (lg_sl ([.ref (g b), .int p0])).length) Slot.unset).toArray = ls at hl ⊢
  have hl : lv_has ls 3 [(0, .ref (g b)), (1, .int p0)] := hl
  rw [← hav]
  generalize hQ : MQ below _ _ _ _ _ _ = Q
  show W p l e rm_X5_drops s m args below meth c s.heap [] 0 0 Q (F0 m 0 ls [])
  unfold f_X5_drops at hf
  refine lv_aload_n hx hb dX5_drops_0 rfl (lv_at hl 0 rfl) ?_
  refine va_get (ci := 5) (v := .ref (g (b + 1))) (C := RX5) (T := TX5) (N := 12) hx hb hts iw_X5_drops_X5 hown hK hP 0 rfl rfl 0 (by decide) (hts (.fieldLink RX5 7 "BallastTrackModel" "s" "[I") (List.mem_of_getElem? (i := 1) rfl)) (fun _ h9 => h9) rfl dX5_drops_1 ?_
  refine lv_bipush (v := 16) hx hb dX5_drops_4 (by decide) ?_
  refine lv_dup2_11 hx hb dX5_drops_6 rfl rfl ?_
  refine va_iald hx hb hK hP 1 0 rfl rfl (by unfold vp_in; decide) dX5_drops_7 ?_
  refine lv_topi (fun x21 ex21 => ?_)
  replace hf := nm_i hf ex21
  refine lv_iconst (v := 1) hx hb dX5_drops_8 (by decide) ?_
  refine lv_isub hx hb dX5_drops_9 ?_
  refine lv_topi (fun x22 ex22 => ?_)
  replace hf := nm_i hf ex22
  refine va_iast hx hb hK hP (va_D_adr hD rfl) hS 1 0 rfl rfl (by unfold vp_in; decide) dX5_drops_10 (fun H locs hP _ hS => ?_)
  obtain ⟨u23, eu23⟩ : ∃ z : TM, z = M_ss_ u_mo (upd (M_ss u_mo) 16 x22) := ⟨_, rfl⟩
  replace hf := nm_i hf eu23
  have hP : va_P D vwCl (List.flatten [wM cT g b u23]) H := by rw [eu23]; exact hP
  refine lv_bipush (v := 17) hx hb dX5_drops_11 (by decide) ?_
  refine lv_iconst (v := 4) hx hb dX5_drops_13 (by decide) ?_
  refine lv_iload_n hx hb dX5_drops_14 rfl (lv_at hl 1 rfl) ?_
  refine lv_imul hx hb dX5_drops_15 ?_
  refine lv_topi (fun x24 ex24 => ?_)
  replace hf := nm_i hf ex24
  refine lv_iadd hx hb dX5_drops_16 ?_
  refine lv_topi (fun x25 ex25 => ?_)
  replace hf := nm_i hf ex25
  refine lv_istore_n (lv' := [(2, .int x25), (0, .ref (g b)), (1, .int p0)]) hx hb dX5_drops_17 rfl hl (by decide) rfl (fun ls hl => ?_)
  obtain ⟨z41, hz41, hf⟩ := bd_i hf
  have hL18 : ∀ (n : Nat) (v38 : Int32) (u39 : TM) (z40 : TM), lf_X5_drops_18 fu  n v38 u39 = some z40 → ∀ (H : Heap) (locs : List Loc) (ls : Array Slot), va_P D vwCl (List.flatten [wM cT g b u39]) H → va_S A s.heap H locs → lv_has ls 3 [(0, .ref (g b)), (2, .int v38)] → (∀ (H : Heap) (locs : List Loc) (ls : Array Slot), va_P D vwCl (List.flatten [wM cT g b z40]) H → va_S A s.heap H locs → lv_has ls 3 [] → W p l e rm_X5_drops s m args below meth c H locs 0 0 Q (F0 m 54 ls [])) → W p l e rm_X5_drops s m args below meth c H locs 0 0 Q (F0 m 18 ls []) := by
    refine lq_2_ind (F := lb_X5_drops_18 fu ) (fun rec ih v38 u39 z40 hf H locs ls hP hS hl kx => ?_)
    unfold lb_X5_drops_18 at hf
    refine lv_iload_n hx hb dX5_drops_18 rfl (lv_at hl 1 rfl) ?_
    refine lv_bipush (v := 17) hx hb dX5_drops_19 (by decide) ?_
    refine lv_iconst (v := 4) hx hb dX5_drops_21 (by decide) ?_
    refine lv_aload_n hx hb dX5_drops_22 rfl (lv_at hl 0 rfl) ?_
    refine va_get (ci := 5) (v := .ref (g (b + 1))) (C := RX5) (T := TX5) (N := 12) hx hb hts iw_X5_drops_X5 hown hK hP 0 rfl rfl 0 (by decide) (hts (.fieldLink RX5 7 "BallastTrackModel" "s" "[I") (List.mem_of_getElem? (i := 1) rfl)) (fun _ h9 => h9) rfl dX5_drops_23 ?_
    refine lv_bipush (v := 16) hx hb dX5_drops_26 (by decide) ?_
    refine va_iald hx hb hK hP 1 0 rfl rfl (by unfold vp_in; decide) dX5_drops_28 ?_
    refine lv_topi (fun x42 ex42 => ?_)
    replace hf := nm_i hf ex42
    refine lv_imul hx hb dX5_drops_29 ?_
    refine lv_topi (fun x43 ex43 => ?_)
    replace hf := nm_i hf ex43
    refine lv_iadd hx hb dX5_drops_30 ?_
    refine lv_topi (fun x44 ex44 => ?_)
    replace hf := nm_i hf ex44
    refine lv_icmp_ge (tgt := 54) hx hb dX5_drops_31 (by decide) (fun c45 => ?_) (fun c45 => ?_)
    · replace hf := it_t hf c45
      obtain rfl := Option.some.inj hf
      exact kx _ _ _ hP hS (lv_sub hl [] rfl)
    · replace hf := it_f hf c45
      refine lv_aload_n hx hb dX5_drops_34 rfl (lv_at hl 0 rfl) ?_
      refine va_get (ci := 5) (v := .ref (g (b + 1))) (C := RX5) (T := TX5) (N := 12) hx hb hts iw_X5_drops_X5 hown hK hP 0 rfl rfl 0 (by decide) (hts (.fieldLink RX5 7 "BallastTrackModel" "s" "[I") (List.mem_of_getElem? (i := 1) rfl)) (fun _ h9 => h9) rfl dX5_drops_35 ?_
      refine lv_iload_n hx hb dX5_drops_38 rfl (lv_at hl 1 rfl) ?_
      refine lv_aload_n hx hb dX5_drops_39 rfl (lv_at hl 0 rfl) ?_
      refine va_get (ci := 5) (v := .ref (g (b + 1))) (C := RX5) (T := TX5) (N := 12) hx hb hts iw_X5_drops_X5 hown hK hP 0 rfl rfl 0 (by decide) (hts (.fieldLink RX5 7 "BallastTrackModel" "s" "[I") (List.mem_of_getElem? (i := 1) rfl)) (fun _ h9 => h9) rfl dX5_drops_40 ?_
      refine lv_iload_n hx hb dX5_drops_43 rfl (lv_at hl 1 rfl) ?_
      refine lv_iconst (v := 4) hx hb dX5_drops_44 (by decide) ?_
      refine lv_iadd hx hb dX5_drops_45 ?_
      refine lv_topi (fun x46 ex46 => ?_)
      replace hf := nm_i hf ex46
      obtain ⟨hi47, hf⟩ := ix_i hf
      refine va_iald hx hb hK hP 1 0 rfl rfl hi47 dX5_drops_46 ?_
      refine lv_topi (fun x48 ex48 => ?_)
      replace hf := nm_i hf ex48
      obtain ⟨hi49, hf⟩ := ix_i hf
      refine va_iast hx hb hK hP (va_D_adr hD rfl) hS 1 0 rfl rfl hi49 dX5_drops_47 (fun H locs hP _ hS => ?_)
      obtain ⟨u50, eu50⟩ : ∃ z : TM, z = M_ss_ u39 (upd (M_ss u39) v38.toNatClampNeg x48) := ⟨_, rfl⟩
      replace hf := nm_i hf eu50
      have hP : va_P D vwCl (List.flatten [wM cT g b u50]) H := by rw [eu50]; exact hP
      obtain ⟨x51, ex51⟩ : ∃ z : Int32, z = v38 + (1 : Int32) := ⟨_, rfl⟩
      replace hf := nm_i hf ex51
      refine lv_iinc (v := x51) (lv' := [(2, .int x51), (0, .ref (g b))]) hx hb dX5_drops_48 hl (k := 1) rfl (by rw [ex51]; rfl) (by decide) rfl (fun ls hl => ?_)
      refine lv_goto (tgt := 18) hx hb dX5_drops_51 (by decide) ?_
      exact ih _ _ _ hf _ _ _ hP hS (lv_sub hl [1, 0] rfl) kx
  refine hL18 fu _ _ _ hz41 _ _ _ hP hS (lv_sub hl [1, 0] rfl) (fun H locs ls hP hS hl => ?_)
  obtain rfl := Option.some.inj hf
  subst hQ
  exact en_v hx hb hr hP hS hlocks dX5_drops_54
theorem iw_X5_cancelJobs_X5 : ∀ w ∈ u_ws RX5 TX5 12, w ∈ wsX5_cancelJobs := by decide +kernel
def lb_X5_cancelJobs_27 (fu : Nat) (p0 : Int32) (rec : Int32 → Int32 → TM → Option (Int32 × TM)) (v49 : Int32) (v50 : Int32) (u51 : TM) : Option (Int32 × TM) :=
if v50 < 0 then (
some (v49, u51)
)
else (
bd (f_X5_jobOf fu u51 v50 ((3 : Int32))) fun (o55 : Int32) =>
bd (f_X5_jobOf fu u51 v50 ((1 : Int32))) fun (o56 : Int32) =>
bd (f_X5_in fu  p0 o55 o56) fun (o57 : Bool) =>
jn (fun (x61 : Int32) (u62 : TM) =>
nm (v50 + (-1 : Int32)) fun (x65 : Int32) =>
rec x61 x65 u62
) fun K58_64 =>
if bI o57 = 0 then (
K58_64 v49 u51
)
else (
bd (f_X5_drops fu u51 v50) fun (o67 : TM) =>
nm (v49 + (1 : Int32)) fun (x68 : Int32) =>
K58_64 x68 o67
)
)

def lf_X5_cancelJobs_27 (fu : Nat) (p0 : Int32) : Nat → Int32 → Int32 → TM → Option (Int32 × TM) := lq_3 (lb_X5_cancelJobs_27 fu p0)
def f_X5_cancelJobs (fu : Nat) (u_mo : TM) (p0 : Int32) : Option (Int32 × TM) :=
bd (f_X5_isSleeper fu u_mo p0) fun (o27 : Bool) =>
if ¬ bI o27 = 0 then (
bd (f_X5_notes fu u_mo ) fun (o29 : TM) =>
nm (M_ss o29 16) fun (x30 : Int32) =>
nm (x30 - (1 : Int32)) fun (x31 : Int32) =>
bd (lf_X5_cancelJobs_27 fu p0 fu ((0 : Int32)) x31 o29) fun (z53 : Int32 × TM) =>
some (z53.1, z53.2)
)
else (
some ((-100001 : Int32), u_mo)
)

abbrev rm_X5_cancelJobs : Room := { frames := 2, cells := 0, slots := 0, locals := 43 }
set_option maxHeartbeats 4000000 in
set_option maxRecDepth 100000 in
theorem c_X5_cancelJobs (l : Launch) (D : va_G) (cT : Nat → ClassId) (g : Nat → Nat) (b : Nat) (fu : Nat) (u_mo : TM) (p0 : Int32) (o : Int32 × TM) (hf : f_X5_cancelJobs fu u_mo p0 = some o) (sz : Nat) : Met l yX5_cancelJobs wsX5_cancelJobs rm_X5_cancelJobs (va_Pc [.ref (g b), .int p0] (PRE D cT sz (List.flatten [wM cT g b u_mo]))) (QI D o.1 (List.flatten [wM cT g b o.2]) (va_A (List.flatten [wM cT g b u_mo]) sz)) 0 0 (va_A (List.flatten [wM cT g b u_mo]) sz) := by
  refine Met.ofW (cc := cX5_cancelJobs) (maxL := 4) (ret := (some .int)) (by decide) rfl ?_
  intro p e s m args below meth c s₁ B0 hml hv
  obtain ⟨hav, hsz, hP, hK, hD, hN, hZ⟩ := hv
  have hx := B0.exec
  have hb := B0.bytes
  have hr := B0.returns
  have hts := atoms_spec (ws := wsX5_cancelJobs) B0.pre
  have hown : s.vm.findClass RX5 = some m.cls := findClass_of_methodNamed B0.named
  have hlocks := B0.notSynchronized
  subst hsz
  have hD := hD.self (sz := s.heap.size)
  have hA : ∀ q : Nat, s.heap.size ≤ q → va_A (List.flatten [wM cT g b u_mo]) s.heap.size q := fun q h => Or.inr h
  generalize va_A (List.flatten [wM cT g b u_mo]) s.heap.size = A at hD hZ hA ⊢
  have hS : va_S A s.heap s.heap [] := va_S.rf
  have hl := lv_entry ([.ref (g b), .int p0]) (n := 4) (Nat.le_of_ble_eq_true rfl)
  rw [hav]
  rw [lg_entry_eq]
  generalize (lg_sl ([.ref (g b), .int p0]) ++ List.replicate (4 - (lg_sl ([.ref (g b), .int p0])).length) Slot.unset).toArray = ls at hl ⊢
  have hl : lv_has ls 4 [(0, .ref (g b)), (1, .int p0)] := hl
  rw [← hav]
  generalize hQ : MQ below _ _ _ _ _ _ = Q
  show W p l e rm_X5_cancelJobs s m args below meth c s.heap [] 0 0 Q (F0 m 0 ls [])
  unfold f_X5_cancelJobs at hf
  refine lv_aload_n hx hb dX5_cancelJobs_0 rfl (lv_at hl 0 rfl) ?_
  refine lv_iload_n hx hb dX5_cancelJobs_1 rfl (lv_at hl 1 rfl) ?_
  obtain ⟨o27, ho27, hf⟩ := bd_i hf
  refine cl_i [0] [] [wM cT g b u_mo] hP (va_D_adr hD rfl) hA hS (va_runV (As := [.int p0]) (rest := []) ⟨hx, hb, hml, hown, hts⟩ (c_X5_isSleeper l D cT g b fu u_mo p0 o27 ho27 _) (cwV 1 hts gX5_cancelJobs_X5_isSleeper rfl rfl rfl (by decide +kernel) ⟨Nat.le_of_ble_eq_true rfl, Nat.le_of_ble_eq_true rfl⟩) ⟨PRE_blind, va_recv hK hP (ci := 5) (q0 := 0) rfl rfl, PRE_ok [0] (by decide) hP (va_D_adr hD rfl) hA hS hK hN hZ⟩ rfl rfl hl.1 rfl (lv_room (Nat.le_of_ble_eq_true rfl)) dX5_cancelJobs_2 ⟨Nat.le_of_ble_eq_true rfl, Nat.le_of_ble_eq_true rfl⟩) rfl 1 rfl (by decide) (by decide) (fun H locs hP hS => ?_)
  refine lv_if_ne (tgt := 11) hx hb dX5_cancelJobs_5 (by decide) (fun c28 => ?_) (fun c28 => ?_)
  · replace hf := it_t hf c28
    refine lv_aload_n hx hb dX5_cancelJobs_11 rfl (lv_at hl 0 rfl) ?_
    obtain ⟨o29, ho29, hf⟩ := bd_i hf
    refine cl_v [0] [] [wM cT g b o29] hP (va_D_adr hD rfl) hA hS (va_runV (As := []) (rest := []) ⟨hx, hb, hml, hown, hts⟩ (c_X5_notes l D cT g b fu u_mo  o29 ho29 _) (cwV 0 hts gX5_cancelJobs_X5_notes rfl rfl rfl (by decide +kernel) ⟨Nat.le_of_ble_eq_true rfl, Nat.le_of_ble_eq_true rfl⟩) ⟨PRE_blind, va_recv hK hP (ci := 5) (q0 := 0) rfl rfl, PRE_ok [0] (by decide) hP (va_D_adr hD rfl) hA hS hK hN hZ⟩ rfl rfl hl.1 rfl (lv_room (Nat.le_of_ble_eq_true rfl)) dX5_cancelJobs_12 ⟨Nat.le_of_ble_eq_true rfl, Nat.le_of_ble_eq_true rfl⟩) rfl 1 rfl (by decide) (by decide) (fun H locs hP hS => ?_)
    refine lv_iconst (v := 0) hx hb dX5_cancelJobs_15 (by decide) ?_
    refine lv_istore_n (lv' := [(2, .int ((0 : Int32))), (0, .ref (g b)), (1, .int p0)]) hx hb dX5_cancelJobs_16 rfl hl (by decide) rfl (fun ls hl => ?_)
    refine lv_aload_n hx hb dX5_cancelJobs_17 rfl (lv_at hl 1 rfl) ?_
    refine va_get (ci := 5) (v := .ref (g (b + 1))) (C := RX5) (T := TX5) (N := 12) hx hb hts iw_X5_cancelJobs_X5 hown hK hP 0 rfl rfl 0 (by decide) (hts (.fieldLink RX5 7 "BallastTrackModel" "s" "[I") (List.mem_of_getElem? (i := 2) rfl)) (fun _ h9 => h9) rfl dX5_cancelJobs_18 ?_
    refine lv_bipush (v := 16) hx hb dX5_cancelJobs_21 (by decide) ?_
    refine va_iald hx hb hK hP 1 0 rfl rfl (by unfold vp_in; decide) dX5_cancelJobs_23 ?_
    refine lv_topi (fun x30 ex30 => ?_)
    replace hf := nm_i hf ex30
    refine lv_iconst (v := 1) hx hb dX5_cancelJobs_24 (by decide) ?_
    refine lv_isub hx hb dX5_cancelJobs_25 ?_
    refine lv_topi (fun x31 ex31 => ?_)
    replace hf := nm_i hf ex31
    refine lv_istore_n (lv' := [(3, .int x31), (2, .int ((0 : Int32))), (0, .ref (g b)), (1, .int p0)]) hx hb dX5_cancelJobs_26 rfl hl (by decide) rfl (fun ls hl => ?_)
    obtain ⟨z53, hz53, hf⟩ := bd_i hf
    have hL27 : ∀ (n : Nat) (v49 : Int32) (v50 : Int32) (u51 : TM) (z52 : Int32 × TM), lf_X5_cancelJobs_27 fu p0 n v49 v50 u51 = some z52 → ∀ (H : Heap) (locs : List Loc) (ls : Array Slot), va_P D vwCl (List.flatten [wM cT g b u51]) H → va_S A s.heap H locs → lv_has ls 4 [(0, .ref (g b)), (1, .int p0), (2, .int v49), (3, .int v50)] → (∀ (H : Heap) (locs : List Loc) (ls : Array Slot), va_P D vwCl (List.flatten [wM cT g b z52.2]) H → va_S A s.heap H locs → lv_has ls 4 [(2, .int z52.1)] → W p l e rm_X5_cancelJobs s m args below meth c H locs 0 0 Q (F0 m 64 ls [])) → W p l e rm_X5_cancelJobs s m args below meth c H locs 0 0 Q (F0 m 27 ls []) := by
      refine lq_3_ind (F := lb_X5_cancelJobs_27 fu p0) (fun rec ih v49 v50 u51 z52 hf H locs ls hP hS hl kx => ?_)
      unfold lb_X5_cancelJobs_27 at hf
      refine lv_iload_n hx hb dX5_cancelJobs_27 rfl (lv_at hl 3 rfl) ?_
      refine lv_if_lt (tgt := 64) hx hb dX5_cancelJobs_28 (by decide) (fun c54 => ?_) (fun c54 => ?_)
      · replace hf := it_t hf c54
        obtain rfl := Option.some.inj hf
        exact kx _ _ _ hP hS (lv_sub hl [2] rfl)
      · replace hf := it_f hf c54
        refine lv_iload_n hx hb dX5_cancelJobs_31 rfl (lv_at hl 1 rfl) ?_
        refine lv_aload_n hx hb dX5_cancelJobs_32 rfl (lv_at hl 0 rfl) ?_
        refine lv_iload_n hx hb dX5_cancelJobs_33 rfl (lv_at hl 3 rfl) ?_
        refine lv_iconst (v := 3) hx hb dX5_cancelJobs_34 (by decide) ?_
        obtain ⟨o55, ho55, hf⟩ := bd_i hf
        refine cl_i [0] [] [wM cT g b u51] hP (va_D_adr hD rfl) hA hS (va_runV (As := [.int v50, .int ((3 : Int32))]) (rest := [.int p0]) ⟨hx, hb, hml, hown, hts⟩ (c_X5_jobOf l D cT g b fu u51 v50 ((3 : Int32)) o55 ho55 _) (cwV 2 hts gX5_cancelJobs_X5_jobOf rfl rfl rfl (by decide +kernel) ⟨Nat.le_of_ble_eq_true rfl, Nat.le_of_ble_eq_true rfl⟩) ⟨PRE_blind, va_recv hK hP (ci := 5) (q0 := 0) rfl rfl, PRE_ok [0] (by decide) hP (va_D_adr hD rfl) hA hS hK hN hZ⟩ rfl rfl hl.1 rfl (lv_room (Nat.le_of_ble_eq_true rfl)) dX5_cancelJobs_35 ⟨Nat.le_of_ble_eq_true rfl, Nat.le_of_ble_eq_true rfl⟩) rfl 1 rfl (by decide) (by decide) (fun H locs hP hS => ?_)
        refine lv_aload_n hx hb dX5_cancelJobs_38 rfl (lv_at hl 0 rfl) ?_
        refine lv_iload_n hx hb dX5_cancelJobs_39 rfl (lv_at hl 3 rfl) ?_
        refine lv_iconst (v := 1) hx hb dX5_cancelJobs_40 (by decide) ?_
        obtain ⟨o56, ho56, hf⟩ := bd_i hf
        refine cl_i [0] [] [wM cT g b u51] hP (va_D_adr hD rfl) hA hS (va_runV (As := [.int v50, .int ((1 : Int32))]) (rest := [.int o55, .int p0]) ⟨hx, hb, hml, hown, hts⟩ (c_X5_jobOf l D cT g b fu u51 v50 ((1 : Int32)) o56 ho56 _) (cwV 2 hts gX5_cancelJobs_X5_jobOf rfl rfl rfl (by decide +kernel) ⟨Nat.le_of_ble_eq_true rfl, Nat.le_of_ble_eq_true rfl⟩) ⟨PRE_blind, va_recv hK hP (ci := 5) (q0 := 0) rfl rfl, PRE_ok [0] (by decide) hP (va_D_adr hD rfl) hA hS hK hN hZ⟩ rfl rfl hl.1 rfl (lv_room (Nat.le_of_ble_eq_true rfl)) dX5_cancelJobs_41 ⟨Nat.le_of_ble_eq_true rfl, Nat.le_of_ble_eq_true rfl⟩) rfl 1 rfl (by decide) (by decide) (fun H locs hP hS => ?_)
        obtain ⟨o57, ho57, hf⟩ := bd_i hf
        refine cl_i [] [0] [wM cT g b u51] hP (va_D_adr hD rfl) hA hS (va_runS (As := [.int p0, .int o55, .int o56]) (rest := []) ⟨hx, hb, hml, hown, hts⟩ (c_X5_in l D cT g  fu  p0 o55 o56 o57 ho57 _) (va_cwS 3 hts gX5_cancelJobs_X5_in rfl rfl rfl (by decide +kernel) ⟨Nat.le_of_ble_eq_true rfl, Nat.le_of_ble_eq_true rfl⟩) ⟨PRE_blind, PRE_ok [] (by decide) hP (va_D_adr hD rfl) hA hS hK hN hZ⟩ rfl rfl hl.1 rfl (lv_room (Nat.le_of_ble_eq_true rfl)) dX5_cancelJobs_44 ⟨Nat.le_of_ble_eq_true rfl, Nat.le_of_ble_eq_true rfl⟩) rfl 1 rfl (by decide) (by decide) (fun H locs hP hS => ?_)
        obtain ⟨K58_64, eK58_64, hf⟩ := jn_i hf
        have hK58_64 : ∀ (x61 : Int32) (u62 : TM) (H : Heap) (locs : List Loc) (ls : Array Slot), K58_64 x61 u62 = some z52 → va_P D vwCl (List.flatten [wM cT g b u62]) H → va_S A s.heap H locs → lv_has ls 4 [(0, .ref (g b)), (1, .int p0), (2, .int x61), (3, .int v50)] → W p l e rm_X5_cancelJobs s m args below meth c H locs 0 0 Q (F0 m 58 ls []) := by
          intro x61 u62 H locs ls hf hP hS hl
          rw [eK58_64] at hf
          obtain ⟨x65, ex65⟩ : ∃ z : Int32, z = v50 + (-1 : Int32) := ⟨_, rfl⟩
          replace hf := nm_i hf ex65
          refine lv_iinc (v := x65) (lv' := [(3, .int x65), (0, .ref (g b)), (1, .int p0), (2, .int x61)]) hx hb dX5_cancelJobs_58 hl (k := 3) rfl (by rw [ex65]; rfl) (by decide) rfl (fun ls hl => ?_)
          refine lv_goto (tgt := 27) hx hb dX5_cancelJobs_61 (by decide) ?_
          exact ih _ _ _ _ hf _ _ _ hP hS (lv_sub hl [1, 2, 3, 0] rfl) kx
        clear eK58_64
        refine lv_if_eq (tgt := 58) hx hb dX5_cancelJobs_47 (by decide) (fun c66 => ?_) (fun c66 => ?_)
        · replace hf := it_t hf c66
          exact hK58_64 _ _ _ _ _ hf hP hS (lv_sub hl [0, 1, 2, 3] rfl)
        · replace hf := it_f hf c66
          refine lv_aload_n hx hb dX5_cancelJobs_50 rfl (lv_at hl 0 rfl) ?_
          refine lv_iload_n hx hb dX5_cancelJobs_51 rfl (lv_at hl 3 rfl) ?_
          obtain ⟨o67, ho67, hf⟩ := bd_i hf
          refine cl_v [0] [] [wM cT g b o67] hP (va_D_adr hD rfl) hA hS (va_runV (As := [.int v50]) (rest := []) ⟨hx, hb, hml, hown, hts⟩ (c_X5_drops l D cT g b fu u51 v50 o67 ho67 _) (cwV 1 hts gX5_cancelJobs_X5_drops rfl rfl rfl (by decide +kernel) ⟨Nat.le_of_ble_eq_true rfl, Nat.le_of_ble_eq_true rfl⟩) ⟨PRE_blind, va_recv hK hP (ci := 5) (q0 := 0) rfl rfl, PRE_ok [0] (by decide) hP (va_D_adr hD rfl) hA hS hK hN hZ⟩ rfl rfl hl.1 rfl (lv_room (Nat.le_of_ble_eq_true rfl)) dX5_cancelJobs_52 ⟨Nat.le_of_ble_eq_true rfl, Nat.le_of_ble_eq_true rfl⟩) rfl 1 rfl (by decide) (by decide) (fun H locs hP hS => ?_)
          obtain ⟨x68, ex68⟩ : ∃ z : Int32, z = v49 + (1 : Int32) := ⟨_, rfl⟩
          replace hf := nm_i hf ex68
          refine lv_iinc (v := x68) (lv' := [(2, .int x68), (0, .ref (g b)), (1, .int p0), (3, .int v50)]) hx hb dX5_cancelJobs_55 hl (k := 2) rfl (by rw [ex68]; rfl) (by decide) rfl (fun ls hl => ?_)
          exact hK58_64 _ _ _ _ _ hf hP hS (lv_sub hl [1, 2, 0, 3] rfl)
    refine hL27 fu _ _ _ _ hz53 _ _ _ hP hS (lv_sub hl [2, 3, 1, 0] rfl) (fun H locs ls hP hS hl => ?_)
    refine lv_iload_n hx hb dX5_cancelJobs_64 rfl (lv_at hl 0 rfl) ?_
    obtain rfl := Option.some.inj hf
    subst hQ
    exact en_i hx hb hr hP hS hlocks dX5_cancelJobs_65
  · replace hf := it_f hf (not_not_intro c28)
    refine lv_ldc (v := -100001) hx hb hown (hts (.constant RX5 68 (-100001)) (List.mem_of_getElem? (i := 1) rfl)) dX5_cancelJobs_8 ?_
    obtain rfl := Option.some.inj hf
    subst hQ
    exact en_i hx hb hr hP hS hlocks dX5_cancelJobs_10
theorem iw_X5_liftOf_X5 : ∀ w ∈ u_ws RX5 TX5 12, w ∈ wsX5_liftOf := by decide +kernel
def f_X5_liftOf (fu : Nat) (u_mo : TM) (p0 : Int32) (p1 : Int32) : Option (Int32) :=
nm ((41 : Int32) + p0) fun (x7 : Int32) =>
ix x7 281 <|
nm ((M_ss u_mo) x7.toNatClampNeg) fun (x9 : Int32) =>
nm (p1 - x9) fun (x10 : Int32) =>
nm (M_ss u_mo 7) fun (x11 : Int32) =>
bd (f_X5_lesser fu  x10 x11) fun (o12 : Int32) =>
some (o12)

abbrev rm_X5_liftOf : Room := { frames := 1, cells := 0, slots := 0, locals := 21 }
set_option maxHeartbeats 4000000 in
set_option maxRecDepth 100000 in
theorem c_X5_liftOf (l : Launch) (D : va_G) (cT : Nat → ClassId) (g : Nat → Nat) (b : Nat) (fu : Nat) (u_mo : TM) (p0 : Int32) (p1 : Int32) (o : Int32) (hf : f_X5_liftOf fu u_mo p0 p1 = some o) (sz : Nat) : Met l yX5_liftOf wsX5_liftOf rm_X5_liftOf (va_Pc [.ref (g b), .int p0, .int p1] (PRE D cT sz (List.flatten [wM cT g b u_mo]))) (QI D o (List.flatten [wM cT g b u_mo]) (va_A (List.flatten [wM cT g b u_mo]) sz)) 0 0 (va_A (List.flatten [wM cT g b u_mo]) sz) := by
  refine Met.ofW (cc := cX5_liftOf) (maxL := 3) (ret := (some .int)) (by decide) rfl ?_
  intro p e s m args below meth c s₁ B0 hml hv
  obtain ⟨hav, hsz, hP, hK, hD, hN, hZ⟩ := hv
  have hx := B0.exec
  have hb := B0.bytes
  have hr := B0.returns
  have hts := atoms_spec (ws := wsX5_liftOf) B0.pre
  have hown : s.vm.findClass RX5 = some m.cls := findClass_of_methodNamed B0.named
  have hlocks := B0.notSynchronized
  subst hsz
  have hD := hD.self (sz := s.heap.size)
  have hA : ∀ q : Nat, s.heap.size ≤ q → va_A (List.flatten [wM cT g b u_mo]) s.heap.size q := fun q h => Or.inr h
  generalize va_A (List.flatten [wM cT g b u_mo]) s.heap.size = A at hD hZ hA ⊢
  have hS : va_S A s.heap s.heap [] := va_S.rf
  have hl := lv_entry ([.ref (g b), .int p0, .int p1]) (n := 3) (Nat.le_of_ble_eq_true rfl)
  rw [hav]
  rw [lg_entry_eq]
  generalize (lg_sl ([.ref (g b), .int p0, .int p1]) ++ List.replicate (3 - (lg_sl ([.ref (g b), .int p0, .int p1])).length) Slot.unset).toArray = ls at hl ⊢
  have hl : lv_has ls 3 [(0, .ref (g b)), (1, .int p0), (2, .int p1)] := hl
  rw [← hav]
  generalize hQ : MQ below _ _ _ _ _ _ = Q
  show W p l e rm_X5_liftOf s m args below meth c s.heap [] 0 0 Q (F0 m 0 ls [])
  unfold f_X5_liftOf at hf
  refine lv_iload_n hx hb dX5_liftOf_0 rfl (lv_at hl 2 rfl) ?_
  refine lv_aload_n hx hb dX5_liftOf_1 rfl (lv_at hl 0 rfl) ?_
  refine va_get (ci := 5) (v := .ref (g (b + 1))) (C := RX5) (T := TX5) (N := 12) hx hb hts iw_X5_liftOf_X5 hown hK hP 0 rfl rfl 0 (by decide) (hts (.fieldLink RX5 7 "BallastTrackModel" "s" "[I") (List.mem_of_getElem? (i := 1) rfl)) (fun _ h9 => h9) rfl dX5_liftOf_2 ?_
  refine lv_bipush (v := 41) hx hb dX5_liftOf_5 (by decide) ?_
  refine lv_iload_n hx hb dX5_liftOf_7 rfl (lv_at hl 1 rfl) ?_
  refine lv_iadd hx hb dX5_liftOf_8 ?_
  refine lv_topi (fun x7 ex7 => ?_)
  replace hf := nm_i hf ex7
  obtain ⟨hi8, hf⟩ := ix_i hf
  refine va_iald hx hb hK hP 1 0 rfl rfl hi8 dX5_liftOf_9 ?_
  refine lv_topi (fun x9 ex9 => ?_)
  replace hf := nm_i hf ex9
  refine lv_isub hx hb dX5_liftOf_10 ?_
  refine lv_topi (fun x10 ex10 => ?_)
  replace hf := nm_i hf ex10
  refine lv_aload_n hx hb dX5_liftOf_11 rfl (lv_at hl 0 rfl) ?_
  refine va_get (ci := 5) (v := .ref (g (b + 1))) (C := RX5) (T := TX5) (N := 12) hx hb hts iw_X5_liftOf_X5 hown hK hP 0 rfl rfl 0 (by decide) (hts (.fieldLink RX5 7 "BallastTrackModel" "s" "[I") (List.mem_of_getElem? (i := 1) rfl)) (fun _ h9 => h9) rfl dX5_liftOf_12 ?_
  refine lv_bipush (v := 7) hx hb dX5_liftOf_15 (by decide) ?_
  refine va_iald hx hb hK hP 1 0 rfl rfl (by unfold vp_in; decide) dX5_liftOf_17 ?_
  refine lv_topi (fun x11 ex11 => ?_)
  replace hf := nm_i hf ex11
  obtain ⟨o12, ho12, hf⟩ := bd_i hf
  refine cl_i [] [0] [wM cT g b u_mo] hP (va_D_adr hD rfl) hA hS (va_runS (As := [.int x10, .int x11]) (rest := []) ⟨hx, hb, hml, hown, hts⟩ (c_X5_lesser l D cT g  fu  x10 x11 o12 ho12 _) (va_cwS 2 hts gX5_liftOf_X5_lesser rfl rfl rfl (by decide +kernel) ⟨Nat.le_of_ble_eq_true rfl, Nat.le_of_ble_eq_true rfl⟩) ⟨PRE_blind, PRE_ok [] (by decide) hP (va_D_adr hD rfl) hA hS hK hN hZ⟩ rfl rfl hl.1 rfl (lv_room (Nat.le_of_ble_eq_true rfl)) dX5_liftOf_18 ⟨Nat.le_of_ble_eq_true rfl, Nat.le_of_ble_eq_true rfl⟩) rfl 1 rfl (by decide) (by decide) (fun H locs hP hS => ?_)
  obtain rfl := Option.some.inj hf
  subst hQ
  exact en_i hx hb hr hP hS hlocks dX5_liftOf_21
def f_X5_minutesFor (fu : Nat)  (p0 : Int32) : Option (Int32) :=
nm (p0 + (49 : Int32)) fun (x4 : Int32) =>
nm (x4 / (50 : Int32)) fun (x5 : Int32) =>
nm ((2 : Int32) + x5) fun (x6 : Int32) =>
some (x6)

abbrev rm_X5_minutesFor : Room := { frames := 0, cells := 0, slots := 0, locals := 0 }
set_option maxHeartbeats 4000000 in
set_option maxRecDepth 100000 in
theorem c_X5_minutesFor (l : Launch) (D : va_G) (cT : Nat → ClassId) (g : Nat → Nat) (fu : Nat)  (p0 : Int32) (o : Int32) (hf : f_X5_minutesFor fu  p0 = some o) (sz : Nat) : Met l yX5_minutesFor wsX5_minutesFor rm_X5_minutesFor (va_Pc [.int p0] (PRE D cT sz (List.flatten []))) (QI D o (List.flatten []) (va_A (List.flatten []) sz)) 0 0 (va_A (List.flatten []) sz) := by
  refine Met.ofW (cc := cX5_minutesFor) (maxL := 1) (ret := (some .int)) (by decide) rfl ?_
  intro p e s m args below meth c s₁ B0 hml hv
  obtain ⟨hav, hsz, hP, hK, hD, hN, hZ⟩ := hv
  have hx := B0.exec
  have hb := B0.bytes
  have hr := B0.returns
  have hts := atoms_spec (ws := wsX5_minutesFor) B0.pre
  have hown : s.vm.findClass RX5 = some m.cls := findClass_of_methodNamed B0.named
  have hlocks := B0.notSynchronized
  subst hsz
  have hD := hD.self (sz := s.heap.size)
  have hA : ∀ q : Nat, s.heap.size ≤ q → va_A (List.flatten []) s.heap.size q := fun q h => Or.inr h
  generalize va_A (List.flatten []) s.heap.size = A at hD hZ hA ⊢
  have hS : va_S A s.heap s.heap [] := va_S.rf
  have hl := lv_entry ([.int p0]) (n := 1) (Nat.le_of_ble_eq_true rfl)
  rw [hav]
  rw [lg_entry_eq]
  generalize (lg_sl ([.int p0]) ++ List.replicate (1 - (lg_sl ([.int p0])).length) Slot.unset).toArray = ls at hl ⊢
  have hl : lv_has ls 1 [(0, .int p0)] := hl
  rw [← hav]
  generalize hQ : MQ below _ _ _ _ _ _ = Q
  show W p l e rm_X5_minutesFor s m args below meth c s.heap [] 0 0 Q (F0 m 0 ls [])
  unfold f_X5_minutesFor at hf
  refine lv_iconst (v := 2) hx hb dX5_minutesFor_0 (by decide) ?_
  refine lv_iload_n hx hb dX5_minutesFor_1 rfl (lv_at hl 0 rfl) ?_
  refine lv_bipush (v := 49) hx hb dX5_minutesFor_2 (by decide) ?_
  refine lv_iadd hx hb dX5_minutesFor_4 ?_
  refine lv_topi (fun x4 ex4 => ?_)
  replace hf := nm_i hf ex4
  refine lv_bipush (v := 50) hx hb dX5_minutesFor_5 (by decide) ?_
  refine lv_idiv hx hb dX5_minutesFor_7 (by decide) ?_
  refine lv_topi (fun x5 ex5 => ?_)
  replace hf := nm_i hf ex5
  refine lv_iadd hx hb dX5_minutesFor_8 ?_
  refine lv_topi (fun x6 ex6 => ?_)
  replace hf := nm_i hf ex6
  obtain rfl := Option.some.inj hf
  subst hQ
  exact en_i hx hb hr hP hS hlocks dX5_minutesFor_9
theorem iw_X5_lift_X5 : ∀ w ∈ u_ws RX5 TX5 12, w ∈ wsX5_lift := by decide +kernel
def f_X5_lift (fu : Nat) (u_mo : TM) (p0 : Int32) (p1 : Int32) : Option (TM) :=
nm ((41 : Int32) + p0) fun (x24 : Int32) =>
ix x24 281 <|
nm ((M_ss u_mo) x24.toNatClampNeg) fun (x26 : Int32) =>
nm (x26 + p1) fun (x27 : Int32) =>
ix x24 281 <|
nm (M_ss_ u_mo (upd (M_ss u_mo) x24.toNatClampNeg x27)) fun (u29 : TM) =>
nm ((221 : Int32) + p0) fun (x30 : Int32) =>
ix x30 281 <|
nm ((M_ss u29) x30.toNatClampNeg) fun (x32 : Int32) =>
nm (x32 + p1) fun (x33 : Int32) =>
ix x30 281 <|
nm (M_ss_ u29 (upd (M_ss u29) x30.toNatClampNeg x33)) fun (u35 : TM) =>
nm (M_ss u35 10) fun (x36 : Int32) =>
nm (x36 + p1) fun (x37 : Int32) =>
nm (M_ss_ u35 (upd (M_ss u35) 10 x37)) fun (u38 : TM) =>
nm ((101 : Int32) + p0) fun (x39 : Int32) =>
nm ((101 : Int32) + p0) fun (x40 : Int32) =>
ix x40 281 <|
nm ((M_ss u38) x40.toNatClampNeg) fun (x42 : Int32) =>
nm (x42 + (3 : Int32)) fun (x43 : Int32) =>
bd (f_X5_lesser fu  ((100 : Int32)) x43) fun (o44 : Int32) =>
ix x39 281 <|
nm (M_ss_ u38 (upd (M_ss u38) x39.toNatClampNeg o44)) fun (u46 : TM) =>
some (u46)

abbrev rm_X5_lift : Room := { frames := 1, cells := 0, slots := 0, locals := 21 }
set_option maxHeartbeats 4000000 in
set_option maxRecDepth 100000 in
theorem c_X5_lift (l : Launch) (D : va_G) (cT : Nat → ClassId) (g : Nat → Nat) (b : Nat) (fu : Nat) (u_mo : TM) (p0 : Int32) (p1 : Int32) (o : TM) (hf : f_X5_lift fu u_mo p0 p1 = some o) (sz : Nat) : Met l yX5_lift wsX5_lift rm_X5_lift (va_Pc [.ref (g b), .int p0, .int p1] (PRE D cT sz (List.flatten [wM cT g b u_mo]))) (QV D (List.flatten [wM cT g b o]) (va_A (List.flatten [wM cT g b u_mo]) sz)) 0 0 (va_A (List.flatten [wM cT g b u_mo]) sz) := by
  refine Met.ofW (cc := cX5_lift) (maxL := 3) (ret := none) (by decide) rfl ?_
  intro p e s m args below meth c s₁ B0 hml hv
  obtain ⟨hav, hsz, hP, hK, hD, hN, hZ⟩ := hv
  have hx := B0.exec
  have hb := B0.bytes
  have hr := B0.returns
  have hts := atoms_spec (ws := wsX5_lift) B0.pre
  have hown : s.vm.findClass RX5 = some m.cls := findClass_of_methodNamed B0.named
  have hlocks := B0.notSynchronized
  subst hsz
  have hD := hD.self (sz := s.heap.size)
  have hA : ∀ q : Nat, s.heap.size ≤ q → va_A (List.flatten [wM cT g b u_mo]) s.heap.size q := fun q h => Or.inr h
  generalize va_A (List.flatten [wM cT g b u_mo]) s.heap.size = A at hD hZ hA ⊢
  have hS : va_S A s.heap s.heap [] := va_S.rf
  have hl := lv_entry ([.ref (g b), .int p0, .int p1]) (n := 3) (Nat.le_of_ble_eq_true rfl)
  rw [hav]
  rw [lg_entry_eq]
  generalize (lg_sl ([.ref (g b), .int p0, .int p1]) ++ List.replicate (3 - (lg_sl ([.ref (g b), .int p0, .int p1])).length) Slot.unset).toArray = ls at hl ⊢
  have hl : lv_has ls 3 [(0, .ref (g b)), (1, .int p0), (2, .int p1)] := hl
  rw [← hav]
  generalize hQ : MQ below _ _ _ _ _ _ = Q
  show W p l e rm_X5_lift s m args below meth c s.heap [] 0 0 Q (F0 m 0 ls [])
  unfold f_X5_lift at hf
  refine lv_aload_n hx hb dX5_lift_0 rfl (lv_at hl 0 rfl) ?_
  refine va_get (ci := 5) (v := .ref (g (b + 1))) (C := RX5) (T := TX5) (N := 12) hx hb hts iw_X5_lift_X5 hown hK hP 0 rfl rfl 0 (by decide) (hts (.fieldLink RX5 7 "BallastTrackModel" "s" "[I") (List.mem_of_getElem? (i := 1) rfl)) (fun _ h9 => h9) rfl dX5_lift_1 ?_
  refine lv_bipush (v := 41) hx hb dX5_lift_4 (by decide) ?_
  refine lv_iload_n hx hb dX5_lift_6 rfl (lv_at hl 1 rfl) ?_
  refine lv_iadd hx hb dX5_lift_7 ?_
  refine lv_topi (fun x24 ex24 => ?_)
  replace hf := nm_i hf ex24
  refine lv_dup2_11 hx hb dX5_lift_8 rfl rfl ?_
  obtain ⟨hi25, hf⟩ := ix_i hf
  refine va_iald hx hb hK hP 1 0 rfl rfl hi25 dX5_lift_9 ?_
  refine lv_topi (fun x26 ex26 => ?_)
  replace hf := nm_i hf ex26
  refine lv_iload_n hx hb dX5_lift_10 rfl (lv_at hl 2 rfl) ?_
  refine lv_iadd hx hb dX5_lift_11 ?_
  refine lv_topi (fun x27 ex27 => ?_)
  replace hf := nm_i hf ex27
  obtain ⟨hi28, hf⟩ := ix_i hf
  refine va_iast hx hb hK hP (va_D_adr hD rfl) hS 1 0 rfl rfl hi28 dX5_lift_12 (fun H locs hP _ hS => ?_)
  obtain ⟨u29, eu29⟩ : ∃ z : TM, z = M_ss_ u_mo (upd (M_ss u_mo) x24.toNatClampNeg x27) := ⟨_, rfl⟩
  replace hf := nm_i hf eu29
  have hP : va_P D vwCl (List.flatten [wM cT g b u29]) H := by rw [eu29]; exact hP
  refine lv_aload_n hx hb dX5_lift_13 rfl (lv_at hl 0 rfl) ?_
  refine va_get (ci := 5) (v := .ref (g (b + 1))) (C := RX5) (T := TX5) (N := 12) hx hb hts iw_X5_lift_X5 hown hK hP 0 rfl rfl 0 (by decide) (hts (.fieldLink RX5 7 "BallastTrackModel" "s" "[I") (List.mem_of_getElem? (i := 1) rfl)) (fun _ h9 => h9) rfl dX5_lift_14 ?_
  refine lv_sipush (v := 221) hx hb dX5_lift_17 (by decide) ?_
  refine lv_iload_n hx hb dX5_lift_20 rfl (lv_at hl 1 rfl) ?_
  refine lv_iadd hx hb dX5_lift_21 ?_
  refine lv_topi (fun x30 ex30 => ?_)
  replace hf := nm_i hf ex30
  refine lv_dup2_11 hx hb dX5_lift_22 rfl rfl ?_
  obtain ⟨hi31, hf⟩ := ix_i hf
  refine va_iald hx hb hK hP 1 0 rfl rfl hi31 dX5_lift_23 ?_
  refine lv_topi (fun x32 ex32 => ?_)
  replace hf := nm_i hf ex32
  refine lv_iload_n hx hb dX5_lift_24 rfl (lv_at hl 2 rfl) ?_
  refine lv_iadd hx hb dX5_lift_25 ?_
  refine lv_topi (fun x33 ex33 => ?_)
  replace hf := nm_i hf ex33
  obtain ⟨hi34, hf⟩ := ix_i hf
  refine va_iast hx hb hK hP (va_D_adr hD rfl) hS 1 0 rfl rfl hi34 dX5_lift_26 (fun H locs hP _ hS => ?_)
  obtain ⟨u35, eu35⟩ : ∃ z : TM, z = M_ss_ u29 (upd (M_ss u29) x30.toNatClampNeg x33) := ⟨_, rfl⟩
  replace hf := nm_i hf eu35
  have hP : va_P D vwCl (List.flatten [wM cT g b u35]) H := by rw [eu35]; exact hP
  refine lv_aload_n hx hb dX5_lift_27 rfl (lv_at hl 0 rfl) ?_
  refine va_get (ci := 5) (v := .ref (g (b + 1))) (C := RX5) (T := TX5) (N := 12) hx hb hts iw_X5_lift_X5 hown hK hP 0 rfl rfl 0 (by decide) (hts (.fieldLink RX5 7 "BallastTrackModel" "s" "[I") (List.mem_of_getElem? (i := 1) rfl)) (fun _ h9 => h9) rfl dX5_lift_28 ?_
  refine lv_bipush (v := 10) hx hb dX5_lift_31 (by decide) ?_
  refine lv_dup2_11 hx hb dX5_lift_33 rfl rfl ?_
  refine va_iald hx hb hK hP 1 0 rfl rfl (by unfold vp_in; decide) dX5_lift_34 ?_
  refine lv_topi (fun x36 ex36 => ?_)
  replace hf := nm_i hf ex36
  refine lv_iload_n hx hb dX5_lift_35 rfl (lv_at hl 2 rfl) ?_
  refine lv_iadd hx hb dX5_lift_36 ?_
  refine lv_topi (fun x37 ex37 => ?_)
  replace hf := nm_i hf ex37
  refine va_iast hx hb hK hP (va_D_adr hD rfl) hS 1 0 rfl rfl (by unfold vp_in; decide) dX5_lift_37 (fun H locs hP _ hS => ?_)
  obtain ⟨u38, eu38⟩ : ∃ z : TM, z = M_ss_ u35 (upd (M_ss u35) 10 x37) := ⟨_, rfl⟩
  replace hf := nm_i hf eu38
  have hP : va_P D vwCl (List.flatten [wM cT g b u38]) H := by rw [eu38]; exact hP
  refine lv_aload_n hx hb dX5_lift_38 rfl (lv_at hl 0 rfl) ?_
  refine va_get (ci := 5) (v := .ref (g (b + 1))) (C := RX5) (T := TX5) (N := 12) hx hb hts iw_X5_lift_X5 hown hK hP 0 rfl rfl 0 (by decide) (hts (.fieldLink RX5 7 "BallastTrackModel" "s" "[I") (List.mem_of_getElem? (i := 1) rfl)) (fun _ h9 => h9) rfl dX5_lift_39 ?_
  refine lv_bipush (v := 101) hx hb dX5_lift_42 (by decide) ?_
  refine lv_iload_n hx hb dX5_lift_44 rfl (lv_at hl 1 rfl) ?_
  refine lv_iadd hx hb dX5_lift_45 ?_
  refine lv_topi (fun x39 ex39 => ?_)
  replace hf := nm_i hf ex39
  refine lv_bipush (v := 100) hx hb dX5_lift_46 (by decide) ?_
  refine lv_aload_n hx hb dX5_lift_48 rfl (lv_at hl 0 rfl) ?_
  refine va_get (ci := 5) (v := .ref (g (b + 1))) (C := RX5) (T := TX5) (N := 12) hx hb hts iw_X5_lift_X5 hown hK hP 0 rfl rfl 0 (by decide) (hts (.fieldLink RX5 7 "BallastTrackModel" "s" "[I") (List.mem_of_getElem? (i := 1) rfl)) (fun _ h9 => h9) rfl dX5_lift_49 ?_
  refine lv_bipush (v := 101) hx hb dX5_lift_52 (by decide) ?_
  refine lv_iload_n hx hb dX5_lift_54 rfl (lv_at hl 1 rfl) ?_
  refine lv_iadd hx hb dX5_lift_55 ?_
  refine lv_topi (fun x40 ex40 => ?_)
  replace hf := nm_i hf ex40
  obtain ⟨hi41, hf⟩ := ix_i hf
  refine va_iald hx hb hK hP 1 0 rfl rfl hi41 dX5_lift_56 ?_
  refine lv_topi (fun x42 ex42 => ?_)
  replace hf := nm_i hf ex42
  refine lv_iconst (v := 3) hx hb dX5_lift_57 (by decide) ?_
  refine lv_iadd hx hb dX5_lift_58 ?_
  refine lv_topi (fun x43 ex43 => ?_)
  replace hf := nm_i hf ex43
  obtain ⟨o44, ho44, hf⟩ := bd_i hf
  refine cl_i [] [0] [wM cT g b u38] hP (va_D_adr hD rfl) hA hS (va_runS (As := [.int ((100 : Int32)), .int x43]) (rest := [.int x39, .ref (g (b + 1))]) ⟨hx, hb, hml, hown, hts⟩ (c_X5_lesser l D cT g  fu  ((100 : Int32)) x43 o44 ho44 _) (va_cwS 2 hts gX5_lift_X5_lesser rfl rfl rfl (by decide +kernel) ⟨Nat.le_of_ble_eq_true rfl, Nat.le_of_ble_eq_true rfl⟩) ⟨PRE_blind, PRE_ok [] (by decide) hP (va_D_adr hD rfl) hA hS hK hN hZ⟩ rfl rfl hl.1 rfl (lv_room (Nat.le_of_ble_eq_true rfl)) dX5_lift_59 ⟨Nat.le_of_ble_eq_true rfl, Nat.le_of_ble_eq_true rfl⟩) rfl 1 rfl (by decide) (by decide) (fun H locs hP hS => ?_)
  obtain ⟨hi45, hf⟩ := ix_i hf
  refine va_iast hx hb hK hP (va_D_adr hD rfl) hS 1 0 rfl rfl hi45 dX5_lift_62 (fun H locs hP _ hS => ?_)
  obtain ⟨u46, eu46⟩ : ∃ z : TM, z = M_ss_ u38 (upd (M_ss u38) x39.toNatClampNeg o44) := ⟨_, rfl⟩
  replace hf := nm_i hf eu46
  have hP : va_P D vwCl (List.flatten [wM cT g b u46]) H := by rw [eu46]; exact hP
  obtain rfl := Option.some.inj hf
  subst hQ
  exact en_v hx hb hr hP hS hlocks dX5_lift_63
