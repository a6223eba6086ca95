theorem iw_X5_load_X5 : ∀ w ∈ u_ws RX5 TX5 12, w ∈ wsX5_load := by decide +kernel
def lb_X5_load_13 (fu : Nat)  (rec : Int32 → Int32 → TM → Option (Int32 × Int32 × TM)) (v46 : Int32) (v47 : Int32) (u48 : TM) : Option (Int32 × Int32 × TM) :=
if v47 = 0 then (
some (v46, v47, u48)
)
else (
bd (f_X5_here fu u48 ) fun (o52 : Int32 × TM) =>
if o52.1 < 0 then (
some (v46, v47, o52.2)
)
else (
bd (f_X5_readsItem fu o52.2 ) fun (o54 : Bool × TM) =>
nm (v46 + (1 : Int32)) fun (x55 : Int32) =>
rec x55 (bI o54.1) o54.2
)
)

def lf_X5_load_13 (fu : Nat)  : Nat → Int32 → Int32 → TM → Option (Int32 × Int32 × TM) := lq_3 (lb_X5_load_13 fu )
def lb_X5_load_37 (fu : Nat)  (rec : Int32 → TM → Option (TM)) (v68 : Int32) (u69 : TM) : Option (TM) :=
if (281 : Int32) ≤ v68 then (
some (u69)
)
else (
ix v68 281 <|
nm ((M_ss u69) v68.toNatClampNeg) fun (x74 : Int32) =>
ix v68 281 <|
nm ((M_as u69) v68.toNatClampNeg) fun (x76 : Int32) =>
ix v68 281 <|
nm (M_ss_ u69 (upd (M_ss u69) v68.toNatClampNeg x76)) fun (u78 : TM) =>
ix v68 281 <|
nm (M_as_ u78 (upd (M_as u78) v68.toNatClampNeg x74)) fun (u80 : TM) =>
nm (v68 + (1 : Int32)) fun (x81 : Int32) =>
rec x81 u80
)

def lf_X5_load_37 (fu : Nat)  : Nat → Int32 → TM → Option (TM) := lq_2 (lb_X5_load_37 fu )
def f_X5_load (fu : Nat) (u_mo : TM)  : Option (Int32 × TM) :=
bd (f_X5_putAside fu u_mo ) fun (o36 : TM) =>
nm (M_at_ o36 ((0 : Int32))) fun (u37 : TM) =>
bd (lf_X5_load_13 fu  fu ((0 : Int32)) ((1 : Int32)) u37) fun (z50 : Int32 × Int32 × TM) =>
bd (lf_X5_load_37 fu  fu ((0 : Int32)) z50.2.2) fun (z71 : TM) =>
if ¬ z50.2.1 = 0 then (
bd (f_X5_notes fu z71 ) fun (o83 : TM) =>
bd (f_X5_putBack fu o83 ) fun (o84 : TM) =>
nm (M_ty_ o84 ((0 : Int32))) fun (u85 : TM) =>
some (z50.1, u85)
)
else (
nm (M_at z71) fun (x86 : Int32) =>
nm ((-200000 : Int32) - x86) fun (x87 : Int32) =>
some (x87, z71)
)

abbrev rm_X5_load : Room := { frames := 3, cells := 0, slots := 0, locals := 72 }
set_option maxHeartbeats 4000000 in
set_option maxRecDepth 100000 in
theorem c_X5_load (l : Launch) (D : va_G) (cT : Nat → ClassId) (g : Nat → Nat) (b : Nat) (fu : Nat) (u_mo : TM)  (o : Int32 × TM) (hf : f_X5_load fu u_mo  = some o) (sz : Nat) : Met l yX5_load wsX5_load rm_X5_load (va_Pc [.ref (g b)] (PRE D cT sz (List.flatten [wM cT g b u_mo]))) (QI D o.1 (List.flatten [wM cT g b o.2]) (va_A (List.flatten [wM cT g b u_mo]) sz)) 0 0 (va_A (List.flatten [wM cT g b u_mo]) sz) := by
  refine Met.ofW (cc := cX5_load) (maxL := 5) (ret := (some .int)) (by decide) rfl ?_
  intro p e s m args below meth c s₁ B0 hml hv
  obtain ⟨hav, hsz, hP, hK, hD, hN, hZ⟩ := hv
  have hx := B0.exec
  have hb := B0.bytes
  have hr := B0.returns
  have hts := atoms_spec (ws := wsX5_load) B0.pre
  have hown : s.vm.findClass RX5 = some m.cls := findClass_of_methodNamed B0.named
  have hlocks := B0.notSynchronized
  subst hsz
  have hD := hD.self (sz := s.heap.size)
  have hA : ∀ q : Nat, s.heap.size ≤ q → va_A (List.flatten [wM cT g b u_mo]) s.heap.size q := fun q h => Or.inr h
  generalize va_A (List.flatten [wM cT g b u_mo]) s.heap.size = A at hD hZ hA ⊢
  have hS : va_S A s.heap s.heap [] := va_S.rf
  have hl := lv_entry ([.ref (g b)]) (n := 5) (Nat.le_of_ble_eq_true rfl)
  rw [hav]
  rw [lg_entry_eq]
  generalize (lg_sl ([.ref (g b)]) ++ List.replicate (5 - (lg_sl ([.ref (g b)])).length) Slot.unset).toArray = ls at hl ⊢
  have hl : lv_has ls 5 [(0, .ref (g b))] := hl
  rw [← hav]
  generalize hQ : MQ below _ _ _ _ _ _ = Q
  show W p l e rm_X5_load s m args below meth c s.heap [] 0 0 Q (F0 m 0 ls [])
  unfold f_X5_load at hf
  refine lv_aload_n hx hb dX5_load_0 rfl (lv_at hl 0 rfl) ?_
  obtain ⟨o36, ho36, hf⟩ := bd_i hf
  refine cl_v [0] [] [wM cT g b o36] hP (va_D_adr hD rfl) hA hS (va_runV (As := []) (rest := []) ⟨hx, hb, hml, hown, hts⟩ (c_X5_putAside l D cT g b fu u_mo  o36 ho36 _) (cwV 0 hts gX5_load_X5_putAside rfl rfl rfl (by decide +kernel) ⟨Nat.le_of_ble_eq_true rfl, Nat.le_of_ble_eq_true rfl⟩) ⟨PRE_blind, va_recv hK hP (ci := 5) (q0 := 0) rfl rfl, PRE_ok [0] (by decide) hP (va_D_adr hD rfl) hA hS hK hN hZ⟩ rfl rfl hl.1 rfl (lv_room (Nat.le_of_ble_eq_true rfl)) dX5_load_1 ⟨Nat.le_of_ble_eq_true rfl, Nat.le_of_ble_eq_true rfl⟩) rfl 1 rfl (by decide) (by decide) (fun H locs hP hS => ?_)
  refine lv_aload_n hx hb dX5_load_4 rfl (lv_at hl 0 rfl) ?_
  refine lv_iconst (v := 0) hx hb dX5_load_5 (by decide) ?_
  refine va_put (ci := 5) (v := .int ((0 : Int32))) (ty := .int) (C := RX5) (T := TX5) (N := 12) hx hb hts iw_X5_load_X5 tyX5 tyX5_ok nmX5 hown hK hP (va_D_adr hD rfl) hS 0 rfl rfl 10 (by decide) (hts (.fieldLink RX5 87 "BallastTrackModel" "at" "I") (List.mem_of_getElem? (i := 1) rfl)) (fun _ h9 => h9) rfl (by decide +kernel) rfl rfl (Nat.le_of_ble_eq_true rfl) dX5_load_6 (fun H locs hP _ hS => ?_)
  obtain ⟨u37, eu37⟩ : ∃ z : TM, z = M_at_ o36 ((0 : Int32)) := ⟨_, rfl⟩
  replace hf := nm_i hf eu37
  have hP : va_P D vwCl (List.flatten [wM cT g b u37]) H := by rw [eu37]; exact hP
  refine lv_iconst (v := 0) hx hb dX5_load_9 (by decide) ?_
  refine lv_istore_n (lv' := [(1, .int ((0 : Int32))), (0, .ref (g b))]) hx hb dX5_load_10 rfl hl (by decide) rfl (fun ls hl => ?_)
  refine lv_iconst (v := 1) hx hb dX5_load_11 (by decide) ?_
  refine lv_istore_n (lv' := [(2, .int ((1 : Int32))), (1, .int ((0 : Int32))), (0, .ref (g b))]) hx hb dX5_load_12 rfl hl (by decide) rfl (fun ls hl => ?_)
  obtain ⟨z50, hz50, hf⟩ := bd_i hf
  have hL13 : ∀ (n : Nat) (v46 : Int32) (v47 : Int32) (u48 : TM) (z49 : Int32 × Int32 × TM), lf_X5_load_13 fu  n v46 v47 u48 = some z49 → ∀ (H : Heap) (locs : List Loc) (ls : Array Slot), va_P D vwCl (List.flatten [wM cT g b u48]) H → va_S A s.heap H locs → lv_has ls 5 [(0, .ref (g b)), (1, .int v46), (2, .int v47)] → (∀ (H : Heap) (locs : List Loc) (ls : Array Slot), va_P D vwCl (List.flatten [wM cT g b z49.2.2]) H → va_S A s.heap H locs → lv_has ls 5 [(0, .ref (g b)), (1, .int z49.1), (2, .int z49.2.1)] → W p l e rm_X5_load s m args below meth c H locs 0 0 Q (F0 m 35 ls [])) → W p l e rm_X5_load s m args below meth c H locs 0 0 Q (F0 m 13 ls []) := by
    refine lq_3_ind (F := lb_X5_load_13 fu ) (fun rec ih v46 v47 u48 z49 hf H locs ls hP hS hl kx => ?_)
    unfold lb_X5_load_13 at hf
    refine lv_iload_n hx hb dX5_load_13 rfl (lv_at hl 2 rfl) ?_
    refine lv_if_eq (tgt := 35) hx hb dX5_load_14 (by decide) (fun c51 => ?_) (fun c51 => ?_)
    · replace hf := it_t hf c51
      obtain rfl := Option.some.inj hf
      exact kx _ _ _ hP hS (lv_sub hl [0, 1, 2] rfl)
    · replace hf := it_f hf c51
      refine lv_aload_n hx hb dX5_load_17 rfl (lv_at hl 0 rfl) ?_
      obtain ⟨o52, ho52, hf⟩ := bd_i hf
      refine cl_i [0] [] [wM cT g b o52.2] hP (va_D_adr hD rfl) hA hS (va_runV (As := []) (rest := []) ⟨hx, hb, hml, hown, hts⟩ (c_X5_here l D cT g b fu u48  o52 ho52 _) (cwV 0 hts gX5_load_X5_here rfl rfl rfl (by decide +kernel) ⟨Nat.le_of_ble_eq_true rfl, Nat.le_of_ble_eq_true rfl⟩) ⟨PRE_blind, va_recv hK hP (ci := 5) (q0 := 0) rfl rfl, PRE_ok [0] (by decide) hP (va_D_adr hD rfl) hA hS hK hN hZ⟩ rfl rfl hl.1 rfl (lv_room (Nat.le_of_ble_eq_true rfl)) dX5_load_18 ⟨Nat.le_of_ble_eq_true rfl, Nat.le_of_ble_eq_true rfl⟩) rfl 1 rfl (by decide) (by decide) (fun H locs hP hS => ?_)
      refine lv_if_lt (tgt := 35) hx hb dX5_load_21 (by decide) (fun c53 => ?_) (fun c53 => ?_)
      · replace hf := it_t hf c53
        obtain rfl := Option.some.inj hf
        exact kx _ _ _ hP hS (lv_sub hl [0, 1, 2] rfl)
      · replace hf := it_f hf c53
        refine lv_aload_n hx hb dX5_load_24 rfl (lv_at hl 0 rfl) ?_
        obtain ⟨o54, ho54, hf⟩ := bd_i hf
        refine cl_i [0] [] [wM cT g b o54.2] hP (va_D_adr hD rfl) hA hS (va_runV (As := []) (rest := []) ⟨hx, hb, hml, hown, hts⟩ (c_X5_readsItem l D cT g b fu o52.2  o54 ho54 _) (cwV 0 hts gX5_load_X5_readsItem rfl rfl rfl (by decide +kernel) ⟨Nat.le_of_ble_eq_true rfl, Nat.le_of_ble_eq_true rfl⟩) ⟨PRE_blind, va_recv hK hP (ci := 5) (q0 := 0) rfl rfl, PRE_ok [0] (by decide) hP (va_D_adr hD rfl) hA hS hK hN hZ⟩ rfl rfl hl.1 rfl (lv_room (Nat.le_of_ble_eq_true rfl)) dX5_load_25 ⟨Nat.le_of_ble_eq_true rfl, Nat.le_of_ble_eq_true rfl⟩) rfl 1 rfl (by decide) (by decide) (fun H locs hP hS => ?_)
        refine lv_istore_n (lv' := [(2, .int (bI o54.1)), (0, .ref (g b)), (1, .int v46)]) hx hb dX5_load_28 rfl hl (by decide) rfl (fun ls hl => ?_)
        obtain ⟨x55, ex55⟩ : ∃ z : Int32, z = v46 + (1 : Int32) := ⟨_, rfl⟩
        replace hf := nm_i hf ex55
        refine lv_iinc (v := x55) (lv' := [(1, .int x55), (2, .int (bI o54.1)), (0, .ref (g b))]) hx hb dX5_load_29 hl (k := 2) rfl (by rw [ex55]; rfl) (by decide) rfl (fun ls hl => ?_)
        refine lv_goto (tgt := 13) hx hb dX5_load_32 (by decide) ?_
        exact ih _ _ _ _ hf _ _ _ hP hS (lv_sub hl [2, 0, 1] rfl) kx
  refine hL13 fu _ _ _ _ hz50 _ _ _ hP hS (lv_sub hl [2, 1, 0] rfl) (fun H locs ls hP hS hl => ?_)
  refine lv_iconst (v := 0) hx hb dX5_load_35 (by decide) ?_
  refine lv_istore_n (lv' := [(3, .int ((0 : Int32))), (0, .ref (g b)), (1, .int z50.1), (2, .int z50.2.1)]) hx hb dX5_load_36 rfl hl (by decide) rfl (fun ls hl => ?_)
  obtain ⟨z71, hz71, hf⟩ := bd_i hf
  have hL37 : ∀ (n : Nat) (v68 : Int32) (u69 : TM) (z70 : TM), lf_X5_load_37 fu  n v68 u69 = some z70 → ∀ (H : Heap) (locs : List Loc) (ls : Array Slot), va_P D vwCl (List.flatten [wM cT g b u69]) H → va_S A s.heap H locs → lv_has ls 5 [(0, .ref (g b)), (1, .int z50.1), (2, .int z50.2.1), (3, .int v68)] → (∀ (H : Heap) (locs : List Loc) (ls : Array Slot), va_P D vwCl (List.flatten [wM cT g b z70]) H → va_S A s.heap H locs → lv_has ls 5 [(0, .ref (g b)), (1, .int z50.1), (2, .int z50.2.1)] → W p l e rm_X5_load s m args below meth c H locs 0 0 Q (F0 m 78 ls [])) → W p l e rm_X5_load s m args below meth c H locs 0 0 Q (F0 m 37 ls []) := by
    refine lq_2_ind (F := lb_X5_load_37 fu ) (fun rec ih v68 u69 z70 hf H locs ls hP hS hl kx => ?_)
    unfold lb_X5_load_37 at hf
    refine lv_iload_n hx hb dX5_load_37 rfl (lv_at hl 3 rfl) ?_
    refine lv_sipush (v := 281) hx hb dX5_load_38 (by decide) ?_
    refine lv_icmp_ge (tgt := 78) hx hb dX5_load_41 (by decide) (fun c72 => ?_) (fun c72 => ?_)
    · replace hf := it_t hf c72
      obtain rfl := Option.some.inj hf
      exact kx _ _ _ hP hS (lv_sub hl [0, 1, 2] rfl)
    · replace hf := it_f hf c72
      refine lv_aload_n hx hb dX5_load_44 rfl (lv_at hl 0 rfl) ?_
      refine va_get (ci := 5) (v := .ref (g (b + 1))) (C := RX5) (T := TX5) (N := 12) hx hb hts iw_X5_load_X5 hown hK hP 0 rfl rfl 0 (by decide) (hts (.fieldLink RX5 7 "BallastTrackModel" "s" "[I") (List.mem_of_getElem? (i := 2) rfl)) (fun _ h9 => h9) rfl dX5_load_45 ?_
      refine lv_iload_n hx hb dX5_load_48 rfl (lv_at hl 3 rfl) ?_
      obtain ⟨hi73, hf⟩ := ix_i hf
      refine va_iald hx hb hK hP 1 0 rfl rfl hi73 dX5_load_49 ?_
      refine lv_topi (fun x74 ex74 => ?_)
      replace hf := nm_i hf ex74
      refine lv_istore (lv' := [(4, .int x74), (0, .ref (g b)), (1, .int z50.1), (2, .int z50.2.1), (3, .int v68)]) hx hb dX5_load_50 hl (by decide) rfl (fun ls hl => ?_)
      refine lv_aload_n hx hb dX5_load_52 rfl (lv_at hl 1 rfl) ?_
      refine va_get (ci := 5) (v := .ref (g (b + 1))) (C := RX5) (T := TX5) (N := 12) hx hb hts iw_X5_load_X5 hown hK hP 0 rfl rfl 0 (by decide) (hts (.fieldLink RX5 7 "BallastTrackModel" "s" "[I") (List.mem_of_getElem? (i := 2) rfl)) (fun _ h9 => h9) rfl dX5_load_53 ?_
      refine lv_iload_n hx hb dX5_load_56 rfl (lv_at hl 4 rfl) ?_
      refine lv_aload_n hx hb dX5_load_57 rfl (lv_at hl 1 rfl) ?_
      refine va_get (ci := 5) (v := .ref (g (b + 4))) (C := RX5) (T := TX5) (N := 12) hx hb hts iw_X5_load_X5 hown hK hP 0 rfl rfl 5 (by decide) (hts (.fieldLink RX5 19 "BallastTrackModel" "aside" "[I") (List.mem_of_getElem? (i := 3) rfl)) (fun _ h9 => h9) rfl dX5_load_58 ?_
      refine lv_iload_n hx hb dX5_load_61 rfl (lv_at hl 4 rfl) ?_
      obtain ⟨hi75, hf⟩ := ix_i hf
      refine va_iald hx hb hK hP 4 0 rfl rfl hi75 dX5_load_62 ?_
      refine lv_topi (fun x76 ex76 => ?_)
      replace hf := nm_i hf ex76
      obtain ⟨hi77, hf⟩ := ix_i hf
      refine va_iast hx hb hK hP (va_D_adr hD rfl) hS 1 0 rfl rfl hi77 dX5_load_63 (fun H locs hP _ hS => ?_)
      obtain ⟨u78, eu78⟩ : ∃ z : TM, z = M_ss_ u69 (upd (M_ss u69) v68.toNatClampNeg x76) := ⟨_, rfl⟩
      replace hf := nm_i hf eu78
      have hP : va_P D vwCl (List.flatten [wM cT g b u78]) H := by rw [eu78]; exact hP
      refine lv_aload_n hx hb dX5_load_64 rfl (lv_at hl 1 rfl) ?_
      refine va_get (ci := 5) (v := .ref (g (b + 4))) (C := RX5) (T := TX5) (N := 12) hx hb hts iw_X5_load_X5 hown hK hP 0 rfl rfl 5 (by decide) (hts (.fieldLink RX5 19 "BallastTrackModel" "aside" "[I") (List.mem_of_getElem? (i := 3) rfl)) (fun _ h9 => h9) rfl dX5_load_65 ?_
      refine lv_iload_n hx hb dX5_load_68 rfl (lv_at hl 4 rfl) ?_
      refine lv_iload hx hb dX5_load_69 (lv_at hl 0 rfl) ?_
      obtain ⟨hi79, hf⟩ := ix_i hf
      refine va_iast hx hb hK hP (va_D_adr hD rfl) hS 4 0 rfl rfl hi79 dX5_load_71 (fun H locs hP _ hS => ?_)
      obtain ⟨u80, eu80⟩ : ∃ z : TM, z = M_as_ u78 (upd (M_as u78) v68.toNatClampNeg x74) := ⟨_, rfl⟩
      replace hf := nm_i hf eu80
      have hP : va_P D vwCl (List.flatten [wM cT g b u80]) H := by rw [eu80]; exact hP
      obtain ⟨x81, ex81⟩ : ∃ z : Int32, z = v68 + (1 : Int32) := ⟨_, rfl⟩
      replace hf := nm_i hf ex81
      refine lv_iinc (v := x81) (lv' := [(3, .int x81), (4, .int x74), (0, .ref (g b)), (1, .int z50.1), (2, .int z50.2.1)]) hx hb dX5_load_72 hl (k := 4) rfl (by rw [ex81]; rfl) (by decide) rfl (fun ls hl => ?_)
      refine lv_goto (tgt := 37) hx hb dX5_load_75 (by decide) ?_
      exact ih _ _ _ hf _ _ _ hP hS (lv_sub hl [2, 3, 4, 0] rfl) kx
  refine hL37 fu _ _ _ hz71 _ _ _ hP hS (lv_sub hl [1, 2, 3, 0] rfl) (fun H locs ls hP hS hl => ?_)
  refine lv_iload_n hx hb dX5_load_78 rfl (lv_at hl 2 rfl) ?_
  refine lv_if_ne (tgt := 90) hx hb dX5_load_79 (by decide) (fun c82 => ?_) (fun c82 => ?_)
  · replace hf := it_t hf c82
    refine lv_aload_n hx hb dX5_load_90 rfl (lv_at hl 0 rfl) ?_
    obtain ⟨o83, ho83, hf⟩ := bd_i hf
    refine cl_v [0] [] [wM cT g b o83] hP (va_D_adr hD rfl) hA hS (va_runV (As := []) (rest := []) ⟨hx, hb, hml, hown, hts⟩ (c_X5_notes l D cT g b fu z71  o83 ho83 _) (cwV 0 hts gX5_load_X5_notes rfl rfl rfl (by decide +kernel) ⟨Nat.le_of_ble_eq_true rfl, Nat.le_of_ble_eq_true rfl⟩) ⟨PRE_blind, va_recv hK hP (ci := 5) (q0 := 0) rfl rfl, PRE_ok [0] (by decide) hP (va_D_adr hD rfl) hA hS hK hN hZ⟩ rfl rfl hl.1 rfl (lv_room (Nat.le_of_ble_eq_true rfl)) dX5_load_91 ⟨Nat.le_of_ble_eq_true rfl, Nat.le_of_ble_eq_true rfl⟩) rfl 1 rfl (by decide) (by decide) (fun H locs hP hS => ?_)
    refine lv_aload_n hx hb dX5_load_94 rfl (lv_at hl 0 rfl) ?_
    obtain ⟨o84, ho84, hf⟩ := bd_i hf
    refine cl_v [0] [] [wM cT g b o84] hP (va_D_adr hD rfl) hA hS (va_runV (As := []) (rest := []) ⟨hx, hb, hml, hown, hts⟩ (c_X5_putBack l D cT g b fu o83  o84 ho84 _) (cwV 0 hts gX5_load_X5_putBack rfl rfl rfl (by decide +kernel) ⟨Nat.le_of_ble_eq_true rfl, Nat.le_of_ble_eq_true rfl⟩) ⟨PRE_blind, va_recv hK hP (ci := 5) (q0 := 0) rfl rfl, PRE_ok [0] (by decide) hP (va_D_adr hD rfl) hA hS hK hN hZ⟩ rfl rfl hl.1 rfl (lv_room (Nat.le_of_ble_eq_true rfl)) dX5_load_95 ⟨Nat.le_of_ble_eq_true rfl, Nat.le_of_ble_eq_true rfl⟩) rfl 1 rfl (by decide) (by decide) (fun H locs hP hS => ?_)
    refine lv_aload_n hx hb dX5_load_98 rfl (lv_at hl 0 rfl) ?_
    refine lv_iconst (v := 0) hx hb dX5_load_99 (by decide) ?_
    refine va_put (ci := 5) (v := .int ((0 : Int32))) (ty := .int) (C := RX5) (T := TX5) (N := 12) hx hb hts iw_X5_load_X5 tyX5 tyX5_ok nmX5 hown hK hP (va_D_adr hD rfl) hS 0 rfl rfl 7 (by decide) (hts (.fieldLink RX5 83 "BallastTrackModel" "typed" "I") (List.mem_of_getElem? (i := 5) rfl)) (fun _ h9 => h9) rfl (by decide +kernel) rfl rfl (Nat.le_of_ble_eq_true rfl) dX5_load_100 (fun H locs hP _ hS => ?_)
    obtain ⟨u85, eu85⟩ : ∃ z : TM, z = M_ty_ o84 ((0 : Int32)) := ⟨_, rfl⟩
    replace hf := nm_i hf eu85
    have hP : va_P D vwCl (List.flatten [wM cT g b u85]) H := by rw [eu85]; exact hP
    refine lv_iload_n hx hb dX5_load_103 rfl (lv_at hl 1 rfl) ?_
    obtain rfl := Option.some.inj hf
    subst hQ
    exact en_i hx hb hr hP hS hlocks dX5_load_104
  · replace hf := it_f hf (not_not_intro c82)
    refine lv_ldc (v := -200000) hx hb hown (hts (.constant RX5 110 (-200000)) (List.mem_of_getElem? (i := 4) rfl)) dX5_load_82 ?_
    refine lv_aload_n hx hb dX5_load_84 rfl (lv_at hl 0 rfl) ?_
    refine va_get (ci := 5) (v := .int (M_at z71)) (C := RX5) (T := TX5) (N := 12) hx hb hts iw_X5_load_X5 hown hK hP 0 rfl rfl 10 (by decide) (hts (.fieldLink RX5 87 "BallastTrackModel" "at" "I") (List.mem_of_getElem? (i := 1) rfl)) (fun _ h9 => h9) rfl dX5_load_85 ?_
    refine lv_topi (fun x86 ex86 => ?_)
    replace hf := nm_i hf ex86
    refine lv_isub hx hb dX5_load_88 ?_
    refine lv_topi (fun x87 ex87 => ?_)
    replace hf := nm_i hf ex87
    obtain rfl := Option.some.inj hf
    subst hQ
    exact en_i hx hb hr hP hS hlocks dX5_load_89
theorem iw_X5_renew_X5 : ∀ w ∈ u_ws RX5 TX5 12, w ∈ wsX5_renew := by decide +kernel
def lb_X5_renew_36 (fu : Nat) (p1 : Int32) (rec : Int32 → Int32 → TM → Option (Int32 × TM)) (v45 : Int32) (v46 : Int32) (u47 : TM) : Option (Int32 × TM) :=
if p1 < v46 then (
some (v45, u47)
)
else (
nm ((101 : Int32) + v46) fun (x51 : Int32) =>
ix x51 281 <|
nm ((M_ss u47) x51.toNatClampNeg) fun (x53 : Int32) =>
nm (v45 + x53) fun (x54 : Int32) =>
nm ((101 : Int32) + v46) fun (x55 : Int32) =>
ix x55 281 <|
nm (M_ss_ u47 (upd (M_ss u47) x55.toNatClampNeg ((0 : Int32)))) fun (u57 : TM) =>
nm (v46 + (1 : Int32)) fun (x58 : Int32) =>
rec x54 x58 u57
)

def lf_X5_renew_36 (fu : Nat) (p1 : Int32) : Nat → Int32 → Int32 → TM → Option (Int32 × TM) := lq_3 (lb_X5_renew_36 fu p1)
def f_X5_renew (fu : Nat) (u_mo : TM) (p0 : Int32) (p1 : Int32) : Option (Int32 × TM) :=
bd (f_X5_isSleeper fu u_mo p0) fun (o25 : Bool) =>
if bI o25 = 0 then (
some ((-100001 : Int32), u_mo)
)
else (
ix ((0 : Int32)) 281 <|
nm ((M_ss u_mo) ((0 : Int32)).toNatClampNeg) fun (x28 : Int32) =>
nm (x28 - (1 : Int32)) fun (x29 : Int32) =>
bd (f_X5_in fu  p1 p0 x29) fun (o30 : Bool) =>
if ¬ bI o30 = 0 then (
bd (f_X5_notes fu u_mo ) fun (o32 : TM) =>
bd (lf_X5_renew_36 fu p1 fu ((0 : Int32)) p0 o32) fun (z49 : Int32 × TM) =>
some (z49.1, z49.2)
)
else (
some ((-100001 : Int32), u_mo)
)
)

abbrev rm_X5_renew : Room := { frames := 2, cells := 0, slots := 0, locals := 43 }
set_option maxHeartbeats 4000000 in
set_option maxRecDepth 100000 in
theorem c_X5_renew (l : Launch) (D : va_G) (cT : Nat → ClassId) (g : Nat → Nat) (b : Nat) (fu : Nat) (u_mo : TM) (p0 : Int32) (p1 : Int32) (o : Int32 × TM) (hf : f_X5_renew fu u_mo p0 p1 = some o) (sz : Nat) : Met l yX5_renew wsX5_renew rm_X5_renew (va_Pc [.ref (g b), .int p0, .int p1] (PRE D cT sz (List.flatten [wM cT g b u_mo]))) (QI D o.1 (List.flatten [wM cT g b o.2]) (va_A (List.flatten [wM cT g b u_mo]) sz)) 0 0 (va_A (List.flatten [wM cT g b u_mo]) sz) := by
  refine Met.ofW (cc := cX5_renew) (maxL := 5) (ret := (some .int)) (by decide) rfl ?_
  intro p e s m args below meth c s₁ B0 hml hv
  obtain ⟨hav, hsz, hP, hK, hD, hN, hZ⟩ := hv
  have hx := B0.exec
  have hb := B0.bytes
  have hr := B0.returns
  have hts := atoms_spec (ws := wsX5_renew) B0.pre
  have hown : s.vm.findClass RX5 = some m.cls := findClass_of_methodNamed B0.named
  have hlocks := B0.notSynchronized
  subst hsz
  have hD := hD.self (sz := s.heap.size)
  have hA : ∀ q : Nat, s.heap.size ≤ q → va_A (List.flatten [wM cT g b u_mo]) s.heap.size q := fun q h => Or.inr h
  generalize va_A (List.flatten [wM cT g b u_mo]) s.heap.size = A at hD hZ hA ⊢
  have hS : va_S A s.heap s.heap [] := va_S.rf
  have hl := lv_entry ([.ref (g b), .int p0, .int p1]) (n := 5) (Nat.le_of_ble_eq_true rfl)
  rw [hav]
  rw [lg_entry_eq]
  generalize (lg_sl ([.ref (g b), .int p0, .int p1]) ++ List.replicate (5 - (lg_sl ([.ref (g b), .int p0, .int p1])).length) Slot.unset).toArray = ls at hl ⊢
  have hl : lv_has ls 5 [(0, .ref (g b)), (1, .int p0), (2, .int p1)] := hl
  rw [← hav]
  generalize hQ : MQ below _ _ _ _ _ _ = Q
  show W p l e rm_X5_renew s m args below meth c s.heap [] 0 0 Q (F0 m 0 ls [])
  unfold f_X5_renew at hf
  refine lv_aload_n hx hb dX5_renew_0 rfl (lv_at hl 0 rfl) ?_
  refine lv_iload_n hx hb dX5_renew_1 rfl (lv_at hl 1 rfl) ?_
  obtain ⟨o25, ho25, hf⟩ := bd_i hf
  refine cl_i [0] [] [wM cT g b u_mo] hP (va_D_adr hD rfl) hA hS (va_runV (As := [.int p0]) (rest := []) ⟨hx, hb, hml, hown, hts⟩ (c_X5_isSleeper l D cT g b fu u_mo p0 o25 ho25 _) (cwV 1 hts gX5_renew_X5_isSleeper rfl rfl rfl (by decide +kernel) ⟨Nat.le_of_ble_eq_true rfl, Nat.le_of_ble_eq_true rfl⟩) ⟨PRE_blind, va_recv hK hP (ci := 5) (q0 := 0) rfl rfl, PRE_ok [0] (by decide) hP (va_D_adr hD rfl) hA hS hK hN hZ⟩ rfl rfl hl.1 rfl (lv_room (Nat.le_of_ble_eq_true rfl)) dX5_renew_2 ⟨Nat.le_of_ble_eq_true rfl, Nat.le_of_ble_eq_true rfl⟩) rfl 1 rfl (by decide) (by decide) (fun H locs hP hS => ?_)
  refine lv_if_eq (tgt := 24) hx hb dX5_renew_5 (by decide) (fun c26 => ?_) (fun c26 => ?_)
  · replace hf := it_t hf c26
    refine lv_ldc (v := -100001) hx hb hown (hts (.constant RX5 68 (-100001)) (List.mem_of_getElem? (i := 2) rfl)) dX5_renew_24 ?_
    obtain rfl := Option.some.inj hf
    subst hQ
    exact en_i hx hb hr hP hS hlocks dX5_renew_26
  · replace hf := it_f hf c26
    refine lv_iload_n hx hb dX5_renew_8 rfl (lv_at hl 2 rfl) ?_
    refine lv_iload_n hx hb dX5_renew_9 rfl (lv_at hl 1 rfl) ?_
    refine lv_aload_n hx hb dX5_renew_10 rfl (lv_at hl 0 rfl) ?_
    refine va_get (ci := 5) (v := .ref (g (b + 1))) (C := RX5) (T := TX5) (N := 12) hx hb hts iw_X5_renew_X5 hown hK hP 0 rfl rfl 0 (by decide) (hts (.fieldLink RX5 7 "BallastTrackModel" "s" "[I") (List.mem_of_getElem? (i := 1) rfl)) (fun _ h9 => h9) rfl dX5_renew_11 ?_
    refine lv_iconst (v := 0) hx hb dX5_renew_14 (by decide) ?_
    obtain ⟨hi27, hf⟩ := ix_i hf
    refine va_iald hx hb hK hP 1 0 rfl rfl hi27 dX5_renew_15 ?_
    refine lv_topi (fun x28 ex28 => ?_)
    replace hf := nm_i hf ex28
    refine lv_iconst (v := 1) hx hb dX5_renew_16 (by decide) ?_
    refine lv_isub hx hb dX5_renew_17 ?_
    refine lv_topi (fun x29 ex29 => ?_)
    replace hf := nm_i hf ex29
    obtain ⟨o30, ho30, hf⟩ := bd_i hf
    refine cl_i [] [0] [wM cT g b u_mo] hP (va_D_adr hD rfl) hA hS (va_runS (As := [.int p1, .int p0, .int x29]) (rest := []) ⟨hx, hb, hml, hown, hts⟩ (c_X5_in l D cT g  fu  p1 p0 x29 o30 ho30 _) (va_cwS 3 hts gX5_renew_X5_in rfl rfl rfl (by decide +kernel) ⟨Nat.le_of_ble_eq_true rfl, Nat.le_of_ble_eq_true rfl⟩) ⟨PRE_blind, PRE_ok [] (by decide) hP (va_D_adr hD rfl) hA hS hK hN hZ⟩ rfl rfl hl.1 rfl (lv_room (Nat.le_of_ble_eq_true rfl)) dX5_renew_18 ⟨Nat.le_of_ble_eq_true rfl, Nat.le_of_ble_eq_true rfl⟩) rfl 1 rfl (by decide) (by decide) (fun H locs hP hS => ?_)
    refine lv_if_ne (tgt := 27) hx hb dX5_renew_21 (by decide) (fun c31 => ?_) (fun c31 => ?_)
    · replace hf := it_t hf c31
      refine lv_aload_n hx hb dX5_renew_27 rfl (lv_at hl 0 rfl) ?_
      obtain ⟨o32, ho32, hf⟩ := bd_i hf
      refine cl_v [0] [] [wM cT g b o32] hP (va_D_adr hD rfl) hA hS (va_runV (As := []) (rest := []) ⟨hx, hb, hml, hown, hts⟩ (c_X5_notes l D cT g b fu u_mo  o32 ho32 _) (cwV 0 hts gX5_renew_X5_notes rfl rfl rfl (by decide +kernel) ⟨Nat.le_of_ble_eq_true rfl, Nat.le_of_ble_eq_true rfl⟩) ⟨PRE_blind, va_recv hK hP (ci := 5) (q0 := 0) rfl rfl, PRE_ok [0] (by decide) hP (va_D_adr hD rfl) hA hS hK hN hZ⟩ rfl rfl hl.1 rfl (lv_room (Nat.le_of_ble_eq_true rfl)) dX5_renew_28 ⟨Nat.le_of_ble_eq_true rfl, Nat.le_of_ble_eq_true rfl⟩) rfl 1 rfl (by decide) (by decide) (fun H locs hP hS => ?_)
      refine lv_iconst (v := 0) hx hb dX5_renew_31 (by decide) ?_
      refine lv_istore_n (lv' := [(3, .int ((0 : Int32))), (0, .ref (g b)), (1, .int p0), (2, .int p1)]) hx hb dX5_renew_32 rfl hl (by decide) rfl (fun ls hl => ?_)
      refine lv_iload_n hx hb dX5_renew_33 rfl (lv_at hl 2 rfl) ?_
      refine lv_istore (lv' := [(4, .int p0), (3, .int ((0 : Int32))), (0, .ref (g b)), (1, .int p0), (2, .int p1)]) hx hb dX5_renew_34 hl (by decide) rfl (fun ls hl => ?_)
      obtain ⟨z49, hz49, hf⟩ := bd_i hf
      have hL36 : ∀ (n : Nat) (v45 : Int32) (v46 : Int32) (u47 : TM) (z48 : Int32 × TM), lf_X5_renew_36 fu p1 n v45 v46 u47 = some z48 → ∀ (H : Heap) (locs : List Loc) (ls : Array Slot), va_P D vwCl (List.flatten [wM cT g b u47]) H → va_S A s.heap H locs → lv_has ls 5 [(0, .ref (g b)), (2, .int p1), (3, .int v45), (4, .int v46)] → (∀ (H : Heap) (locs : List Loc) (ls : Array Slot), va_P D vwCl (List.flatten [wM cT g b z48.2]) H → va_S A s.heap H locs → lv_has ls 5 [(3, .int z48.1)] → W p l e rm_X5_renew s m args below meth c H locs 0 0 Q (F0 m 72 ls [])) → W p l e rm_X5_renew s m args below meth c H locs 0 0 Q (F0 m 36 ls []) := by
        refine lq_3_ind (F := lb_X5_renew_36 fu p1) (fun rec ih v45 v46 u47 z48 hf H locs ls hP hS hl kx => ?_)
        unfold lb_X5_renew_36 at hf
        refine lv_iload hx hb dX5_renew_36 (lv_at hl 3 rfl) ?_
        refine lv_iload_n hx hb dX5_renew_38 rfl (lv_at hl 1 rfl) ?_
        refine lv_icmp_gt (tgt := 72) hx hb dX5_renew_39 (by decide) (fun c50 => ?_) (fun c50 => ?_)
        · replace hf := it_t hf c50
          obtain rfl := Option.some.inj hf
          exact kx _ _ _ hP hS (lv_sub hl [2] rfl)
        · replace hf := it_f hf c50
          refine lv_iload_n hx hb dX5_renew_42 rfl (lv_at hl 2 rfl) ?_
          refine lv_aload_n hx hb dX5_renew_43 rfl (lv_at hl 0 rfl) ?_
          refine va_get (ci := 5) (v := .ref (g (b + 1))) (C := RX5) (T := TX5) (N := 12) hx hb hts iw_X5_renew_X5 hown hK hP 0 rfl rfl 0 (by decide) (hts (.fieldLink RX5 7 "BallastTrackModel" "s" "[I") (List.mem_of_getElem? (i := 1) rfl)) (fun _ h9 => h9) rfl dX5_renew_44 ?_
          refine lv_bipush (v := 101) hx hb dX5_renew_47 (by decide) ?_
          refine lv_iload hx hb dX5_renew_49 (lv_at hl 3 rfl) ?_
          refine lv_iadd hx hb dX5_renew_51 ?_
          refine lv_topi (fun x51 ex51 => ?_)
          replace hf := nm_i hf ex51
          obtain ⟨hi52, hf⟩ := ix_i hf
          refine va_iald hx hb hK hP 1 0 rfl rfl hi52 dX5_renew_52 ?_
          refine lv_topi (fun x53 ex53 => ?_)
          replace hf := nm_i hf ex53
          refine lv_iadd hx hb dX5_renew_53 ?_
          refine lv_topi (fun x54 ex54 => ?_)
          replace hf := nm_i hf ex54
          refine lv_istore_n (lv' := [(3, .int x54), (0, .ref (g b)), (2, .int p1), (4, .int v46)]) hx hb dX5_renew_54 rfl hl (by decide) rfl (fun ls hl => ?_)
          refine lv_aload_n hx hb dX5_renew_55 rfl (lv_at hl 1 rfl) ?_
          refine va_get (ci := 5) (v := .ref (g (b + 1))) (C := RX5) (T := TX5) (N := 12) hx hb hts iw_X5_renew_X5 hown hK hP 0 rfl rfl 0 (by decide) (hts (.fieldLink RX5 7 "BallastTrackModel" "s" "[I") (List.mem_of_getElem? (i := 1) rfl)) (fun _ h9 => h9) rfl dX5_renew_56 ?_
          refine lv_bipush (v := 101) hx hb dX5_renew_59 (by decide) ?_
          refine lv_iload hx hb dX5_renew_61 (lv_at hl 3 rfl) ?_
          refine lv_iadd hx hb dX5_renew_63 ?_
          refine lv_topi (fun x55 ex55 => ?_)
          replace hf := nm_i hf ex55
          refine lv_iconst (v := 0) hx hb dX5_renew_64 (by decide) ?_
          obtain ⟨hi56, hf⟩ := ix_i hf
          refine va_iast hx hb hK hP (va_D_adr hD rfl) hS 1 0 rfl rfl hi56 dX5_renew_65 (fun H locs hP _ hS => ?_)
          obtain ⟨u57, eu57⟩ : ∃ z : TM, z = M_ss_ u47 (upd (M_ss u47) x55.toNatClampNeg ((0 : Int32))) := ⟨_, rfl⟩
          replace hf := nm_i hf eu57
          have hP : va_P D vwCl (List.flatten [wM cT g b u57]) H := by rw [eu57]; exact hP
          obtain ⟨x58, ex58⟩ : ∃ z : Int32, z = v46 + (1 : Int32) := ⟨_, rfl⟩
          replace hf := nm_i hf ex58
          refine lv_iinc (v := x58) (lv' := [(4, .int x58), (3, .int x54), (0, .ref (g b)), (2, .int p1)]) hx hb dX5_renew_66 hl (k := 3) rfl (by rw [ex58]; rfl) (by decide) rfl (fun ls hl => ?_)
          refine lv_goto (tgt := 36) hx hb dX5_renew_69 (by decide) ?_
          exact ih _ _ _ _ hf _ _ _ hP hS (lv_sub hl [2, 3, 1, 0] rfl) kx
      refine hL36 fu _ _ _ _ hz49 _ _ _ hP hS (lv_sub hl [2, 4, 1, 0] rfl) (fun H locs ls hP hS hl => ?_)
      refine lv_iload_n hx hb dX5_renew_72 rfl (lv_at hl 0 rfl) ?_
      obtain rfl := Option.some.inj hf
      subst hQ
      exact en_i hx hb hr hP hS hlocks dX5_renew_73
    · replace hf := it_f hf (not_not_intro c31)
      refine lv_ldc (v := -100001) hx hb hown (hts (.constant RX5 68 (-100001)) (List.mem_of_getElem? (i := 2) rfl)) dX5_renew_24 ?_
      obtain rfl := Option.some.inj hf
      subst hQ
      exact en_i hx hb hr hP hS hlocks dX5_renew_26
theorem iw_X5_jobOf_X5 : ∀ w ∈ u_ws RX5 TX5 12, w ∈ wsX5_jobOf := by decide +kernel
def f_X5_jobOf (fu : Nat) (u_mo : TM) (p0 : Int32) (p1 : Int32) : Option (Int32) :=
nm ((4 : Int32) * p0) fun (x6 : Int32) =>
nm ((17 : Int32) + x6) fun (x7 : Int32) =>
nm (x7 + p1) fun (x8 : Int32) =>
ix x8 281 <|
nm ((M_ss u_mo) x8.toNatClampNeg) fun (x10 : Int32) =>
some (x10)

abbrev rm_X5_jobOf : Room := { frames := 0, cells := 0, slots := 0, locals := 0 }
set_option maxHeartbeats 4000000 in
set_option maxRecDepth 100000 in
theorem c_X5_jobOf (l : Launch) (D : va_G) (cT : Nat → ClassId) (g : Nat → Nat) (b : Nat) (fu : Nat) (u_mo : TM) (p0 : Int32) (p1 : Int32) (o : Int32) (hf : f_X5_jobOf fu u_mo p0 p1 = some o) (sz : Nat) : Met l yX5_jobOf wsX5_jobOf rm_X5_jobOf (va_Pc [.ref (g b), .int p0, .int p1] (PRE D cT sz (List.flatten [wM cT g b u_mo]))) (QI D o (List.flatten [wM cT g b u_mo]) (va_A (List.flatten [wM cT g b u_mo]) sz)) 0 0 (va_A (List.flatten [wM cT g b u_mo]) sz) := by
  refine Met.ofW (cc := cX5_jobOf) (maxL := 3) (ret := (some .int)) (by decide) rfl ?_
  intro p e s m args below meth c s₁ B0 hml hv
  obtain ⟨hav, hsz, hP, hK, hD, hN, hZ⟩ := hv
  have hx := B0.exec
  have hb := B0.bytes
  have hr := B0.returns
  have hts := atoms_spec (ws := wsX5_jobOf) B0.pre
  have hown : s.vm.findClass RX5 = some m.cls := findClass_of_methodNamed B0.named
  have hlocks := B0.notSynchronized
  subst hsz
  have hD := hD.self (sz := s.heap.size)
  have hA : ∀ q : Nat, s.heap.size ≤ q → va_A (List.flatten [wM cT g b u_mo]) s.heap.size q := fun q h => Or.inr h
  generalize va_A (List.flatten [wM cT g b u_mo]) s.heap.size = A at hD hZ hA ⊢
  have hS : va_S A s.heap s.heap [] := va_S.rf
  have hl := lv_entry ([.ref (g b), .int p0, .int p1]) (n := 3) (Nat.le_of_ble_eq_true rfl)
  rw [hav]
  rw [lg_entry_eq]
  generalize (lg_sl ([.ref (g b), .int p0, .int p1]) ++ List.replicate (3 - (lg_sl ([.ref (g b), .int p0, .int p1])).length) Slot.unset).toArray = ls at hl ⊢
  have hl : lv_has ls 3 [(0, .ref (g b)), (1, .int p0), (2, .int p1)] := hl
  rw [← hav]
  generalize hQ : MQ below _ _ _ _ _ _ = Q
  show W p l e rm_X5_jobOf s m args below meth c s.heap [] 0 0 Q (F0 m 0 ls [])
  unfold f_X5_jobOf at hf
  refine lv_aload_n hx hb dX5_jobOf_0 rfl (lv_at hl 0 rfl) ?_
  refine va_get (ci := 5) (v := .ref (g (b + 1))) (C := RX5) (T := TX5) (N := 12) hx hb hts iw_X5_jobOf_X5 hown hK hP 0 rfl rfl 0 (by decide) (hts (.fieldLink RX5 7 "BallastTrackModel" "s" "[I") (List.mem_of_getElem? (i := 1) rfl)) (fun _ h9 => h9) rfl dX5_jobOf_1 ?_
  refine lv_bipush (v := 17) hx hb dX5_jobOf_4 (by decide) ?_
  refine lv_iconst (v := 4) hx hb dX5_jobOf_6 (by decide) ?_
  refine lv_iload_n hx hb dX5_jobOf_7 rfl (lv_at hl 1 rfl) ?_
  refine lv_imul hx hb dX5_jobOf_8 ?_
  refine lv_topi (fun x6 ex6 => ?_)
  replace hf := nm_i hf ex6
  refine lv_iadd hx hb dX5_jobOf_9 ?_
  refine lv_topi (fun x7 ex7 => ?_)
  replace hf := nm_i hf ex7
  refine lv_iload_n hx hb dX5_jobOf_10 rfl (lv_at hl 2 rfl) ?_
  refine lv_iadd hx hb dX5_jobOf_11 ?_
  refine lv_topi (fun x8 ex8 => ?_)
  replace hf := nm_i hf ex8
  obtain ⟨hi9, hf⟩ := ix_i hf
  refine va_iald hx hb hK hP 1 0 rfl rfl hi9 dX5_jobOf_12 ?_
  refine lv_topi (fun x10 ex10 => ?_)
  replace hf := nm_i hf ex10
  obtain rfl := Option.some.inj hf
  subst hQ
  exact en_i hx hb hr hP hS hlocks dX5_jobOf_13
theorem iw_X5_addJob_X5 : ∀ w ∈ u_ws RX5 TX5 12, w ∈ wsX5_addJob := by decide +kernel
def f_X5_addJob (fu : Nat) (u_mo : TM) (p0 : Int32) (p1 : Int32) (p2 : Int32) : Option (Int32 × TM) :=
bd (f_X5_isSleeper fu u_mo p0) fun (o36 : Bool) =>
if bI o36 = 0 then (
some ((-100001 : Int32), u_mo)
)
else (
ix ((0 : Int32)) 281 <|
nm ((M_ss u_mo) ((0 : Int32)).toNatClampNeg) fun (x39 : Int32) =>
nm (x39 - (1 : Int32)) fun (x40 : Int32) =>
bd (f_X5_in fu  p1 p0 x40) fun (o41 : Bool) =>
if bI o41 = 0 then (
some ((-100001 : Int32), u_mo)
)
else (
bd (f_X5_isLevel fu  p2) fun (o43 : Bool) =>
if ¬ bI o43 = 0 then (
ix ((16 : Int32)) 281 <|
nm ((M_ss u_mo) ((16 : Int32)).toNatClampNeg) fun (x46 : Int32) =>
if ¬ x46 = (6 : Int32) then (
bd (f_X5_notes fu u_mo ) fun (o48 : TM) =>
ix ((16 : Int32)) 281 <|
nm ((M_ss o48) ((16 : Int32)).toNatClampNeg) fun (x50 : Int32) =>
nm ((4 : Int32) * x50) fun (x51 : Int32) =>
nm ((17 : Int32) + x51) fun (x52 : Int32) =>
ix x52 281 <|
nm (M_ss_ o48 (upd (M_ss o48) x52.toNatClampNeg p0)) fun (u54 : TM) =>
nm (x52 + (1 : Int32)) fun (x55 : Int32) =>
ix x55 281 <|
nm (M_ss_ u54 (upd (M_ss u54) x55.toNatClampNeg p1)) fun (u57 : TM) =>
nm (x52 + (2 : Int32)) fun (x58 : Int32) =>
ix x58 281 <|
nm (M_ss_ u57 (upd (M_ss u57) x58.toNatClampNeg p2)) fun (u60 : TM) =>
nm (x52 + (3 : Int32)) fun (x61 : Int32) =>
ix x61 281 <|
nm (M_ss_ u60 (upd (M_ss u60) x61.toNatClampNeg p0)) fun (u63 : TM) =>
ix ((16 : Int32)) 281 <|
nm ((M_ss u63) ((16 : Int32)).toNatClampNeg) fun (x65 : Int32) =>
nm (x65 + (1 : Int32)) fun (x66 : Int32) =>
ix ((16 : Int32)) 281 <|
nm (M_ss_ u63 (upd (M_ss u63) ((16 : Int32)).toNatClampNeg x66)) fun (u68 : TM) =>
ix ((16 : Int32)) 281 <|
nm ((M_ss u68) ((16 : Int32)).toNatClampNeg) fun (x70 : Int32) =>
some (x70, u68)
)
else (
some ((-100003 : Int32), u_mo)
)
)
else (
some ((-100001 : Int32), u_mo)
)
)
)

abbrev rm_X5_addJob : Room := { frames := 2, cells := 0, slots := 0, locals := 43 }
set_option maxHeartbeats 4000000 in
set_option maxRecDepth 100000 in
theorem c_X5_addJob (l : Launch) (D : va_G) (cT : Nat → ClassId) (g : Nat → Nat) (b : Nat) (fu : Nat) (u_mo : TM) (p0 : Int32) (p1 : Int32) (p2 : Int32) (o : Int32 × TM) (hf : f_X5_addJob fu u_mo p0 p1 p2 = some o) (sz : Nat) : Met l yX5_addJob wsX5_addJob rm_X5_addJob (va_Pc [.ref (g b), .int p0, .int p1, .int p2] (PRE D cT sz (List.flatten [wM cT g b u_mo]))) (QI D o.1 (List.flatten [wM cT g b o.2]) (va_A (List.flatten [wM cT g b u_mo]) sz)) 0 0 (va_A (List.flatten [wM cT g b u_mo]) sz) := by
  refine Met.ofW (cc := cX5_addJob) (maxL := 5) (ret := (some .int)) (by decide) rfl ?_
  intro p e s m args below meth c s₁ B0 hml hv
  obtain ⟨hav, hsz, hP, hK, hD, hN, hZ⟩ := hv
  have hx := B0.exec
  have hb := B0.bytes
  have hr := B0.returns
  have hts := atoms_spec (ws := wsX5_addJob) B0.pre
  have hown : s.vm.findClass RX5 = some m.cls := findClass_of_methodNamed B0.named
  have hlocks := B0.notSynchronized
  subst hsz
  have hD := hD.self (sz := s.heap.size)
  have hA : ∀ q : Nat, s.heap.size ≤ q → va_A (List.flatten [wM cT g b u_mo]) s.heap.size q := fun q h => Or.inr h
  generalize va_A (List.flatten [wM cT g b u_mo]) s.heap.size = A at hD hZ hA ⊢
  have hS : va_S A s.heap s.heap [] := va_S.rf
  have hl := lv_entry ([.ref (g b), .int p0, .int p1, .int p2]) (n := 5) (Nat.le_of_ble_eq_true rfl)
  rw [hav]
  rw [lg_entry_eq]
  generalize (lg_sl ([.ref (g b), .int p0, .int p1, .int p2]) ++ List.replicate (5 - (lg_sl ([.ref (g b), .int p0, .int p1, .int p2])).length) Slot.unset).toArray = ls at hl ⊢
  have hl : lv_has ls 5 [(0, .ref (g b)), (1, .int p0), (2, .int p1), (3, .int p2)] := hl
  rw [← hav]
  generalize hQ : MQ below _ _ _ _ _ _ = Q
  show W p l e rm_X5_addJob s m args below meth c s.heap [] 0 0 Q (F0 m 0 ls [])
  unfold f_X5_addJob at hf
  refine lv_aload_n hx hb dX5_addJob_0 rfl (lv_at hl 0 rfl) ?_
  refine lv_iload_n hx hb dX5_addJob_1 rfl (lv_at hl 1 rfl) ?_
  obtain ⟨o36, ho36, hf⟩ := bd_i hf
  refine cl_i [0] [] [wM cT g b u_mo] hP (va_D_adr hD rfl) hA hS (va_runV (As := [.int p0]) (rest := []) ⟨hx, hb, hml, hown, hts⟩ (c_X5_isSleeper l D cT g b fu u_mo p0 o36 ho36 _) (cwV 1 hts gX5_addJob_X5_isSleeper rfl rfl rfl (by decide +kernel) ⟨Nat.le_of_ble_eq_true rfl, Nat.le_of_ble_eq_true rfl⟩) ⟨PRE_blind, va_recv hK hP (ci := 5) (q0 := 0) rfl rfl, PRE_ok [0] (by decide) hP (va_D_adr hD rfl) hA hS hK hN hZ⟩ rfl rfl hl.1 rfl (lv_room (Nat.le_of_ble_eq_true rfl)) dX5_addJob_2 ⟨Nat.le_of_ble_eq_true rfl, Nat.le_of_ble_eq_true rfl⟩) rfl 1 rfl (by decide) (by decide) (fun H locs hP hS => ?_)
  refine lv_if_eq (tgt := 31) hx hb dX5_addJob_5 (by decide) (fun c37 => ?_) (fun c37 => ?_)
  · replace hf := it_t hf c37
    refine lv_ldc (v := -100001) hx hb hown (hts (.constant RX5 68 (-100001)) (List.mem_of_getElem? (i := 2) rfl)) dX5_addJob_31 ?_
    obtain rfl := Option.some.inj hf
    subst hQ
    exact en_i hx hb hr hP hS hlocks dX5_addJob_33
  · replace hf := it_f hf c37
    refine lv_iload_n hx hb dX5_addJob_8 rfl (lv_at hl 2 rfl) ?_
    refine lv_iload_n hx hb dX5_addJob_9 rfl (lv_at hl 1 rfl) ?_
    refine lv_aload_n hx hb dX5_addJob_10 rfl (lv_at hl 0 rfl) ?_
    refine va_get (ci := 5) (v := .ref (g (b + 1))) (C := RX5) (T := TX5) (N := 12) hx hb hts iw_X5_addJob_X5 hown hK hP 0 rfl rfl 0 (by decide) (hts (.fieldLink RX5 7 "BallastTrackModel" "s" "[I") (List.mem_of_getElem? (i := 1) rfl)) (fun _ h9 => h9) rfl dX5_addJob_11 ?_
    refine lv_iconst (v := 0) hx hb dX5_addJob_14 (by decide) ?_
    obtain ⟨hi38, hf⟩ := ix_i hf
    refine va_iald hx hb hK hP 1 0 rfl rfl hi38 dX5_addJob_15 ?_
    refine lv_topi (fun x39 ex39 => ?_)
    replace hf := nm_i hf ex39
    refine lv_iconst (v := 1) hx hb dX5_addJob_16 (by decide) ?_
    refine lv_isub hx hb dX5_addJob_17 ?_
    refine lv_topi (fun x40 ex40 => ?_)
    replace hf := nm_i hf ex40
    obtain ⟨o41, ho41, hf⟩ := bd_i hf
    refine cl_i [] [0] [wM cT g b u_mo] hP (va_D_adr hD rfl) hA hS (va_runS (As := [.int p1, .int p0, .int x40]) (rest := []) ⟨hx, hb, hml, hown, hts⟩ (c_X5_in l D cT g  fu  p1 p0 x40 o41 ho41 _) (va_cwS 3 hts gX5_addJob_X5_in rfl rfl rfl (by decide +kernel) ⟨Nat.le_of_ble_eq_true rfl, Nat.le_of_ble_eq_true rfl⟩) ⟨PRE_blind, PRE_ok [] (by decide) hP (va_D_adr hD rfl) hA hS hK hN hZ⟩ rfl rfl hl.1 rfl (lv_room (Nat.le_of_ble_eq_true rfl)) dX5_addJob_18 ⟨Nat.le_of_ble_eq_true rfl, Nat.le_of_ble_eq_true rfl⟩) rfl 1 rfl (by decide) (by decide) (fun H locs hP hS => ?_)
    refine lv_if_eq (tgt := 31) hx hb dX5_addJob_21 (by decide) (fun c42 => ?_) (fun c42 => ?_)
    · replace hf := it_t hf c42
      refine lv_ldc (v := -100001) hx hb hown (hts (.constant RX5 68 (-100001)) (List.mem_of_getElem? (i := 2) rfl)) dX5_addJob_31 ?_
      obtain rfl := Option.some.inj hf
      subst hQ
      exact en_i hx hb hr hP hS hlocks dX5_addJob_33
    · replace hf := it_f hf c42
      refine lv_iload_n hx hb dX5_addJob_24 rfl (lv_at hl 3 rfl) ?_
      obtain ⟨o43, ho43, hf⟩ := bd_i hf
      refine cl_i [] [0] [wM cT g b u_mo] hP (va_D_adr hD rfl) hA hS (va_runS (As := [.int p2]) (rest := []) ⟨hx, hb, hml, hown, hts⟩ (c_X5_isLevel l D cT g  fu  p2 o43 ho43 _) (va_cwS 1 hts gX5_addJob_X5_isLevel rfl rfl rfl (by decide +kernel) ⟨Nat.le_of_ble_eq_true rfl, Nat.le_of_ble_eq_true rfl⟩) ⟨PRE_blind, PRE_ok [] (by decide) hP (va_D_adr hD rfl) hA hS hK hN hZ⟩ rfl rfl hl.1 rfl (lv_room (Nat.le_of_ble_eq_true rfl)) dX5_addJob_25 ⟨Nat.le_of_ble_eq_true rfl, Nat.le_of_ble_eq_true rfl⟩) rfl 1 rfl (by decide) (by decide) (fun H locs hP hS => ?_)
      refine lv_if_ne (tgt := 34) hx hb dX5_addJob_28 (by decide) (fun c44 => ?_) (fun c44 => ?_)
      · replace hf := it_t hf c44
        refine lv_aload_n hx hb dX5_addJob_34 rfl (lv_at hl 0 rfl) ?_
        refine va_get (ci := 5) (v := .ref (g (b + 1))) (C := RX5) (T := TX5) (N := 12) hx hb hts iw_X5_addJob_X5 hown hK hP 0 rfl rfl 0 (by decide) (hts (.fieldLink RX5 7 "BallastTrackModel" "s" "[I") (List.mem_of_getElem? (i := 1) rfl)) (fun _ h9 => h9) rfl dX5_addJob_35 ?_
        refine lv_bipush (v := 16) hx hb dX5_addJob_38 (by decide) ?_
        obtain ⟨hi45, hf⟩ := ix_i hf
        refine va_iald hx hb hK hP 1 0 rfl rfl hi45 dX5_addJob_40 ?_
        refine lv_topi (fun x46 ex46 => ?_)
        replace hf := nm_i hf ex46
        refine lv_bipush (v := 6) hx hb dX5_addJob_41 (by decide) ?_
        refine lv_icmp_ne (tgt := 49) hx hb dX5_addJob_43 (by decide) (fun c47 => ?_) (fun c47 => ?_)
        · replace hf := it_t hf c47
          refine lv_aload_n hx hb dX5_addJob_49 rfl (lv_at hl 0 rfl) ?_
          obtain ⟨o48, ho48, hf⟩ := bd_i hf
          refine cl_v [0] [] [wM cT g b o48] hP (va_D_adr hD rfl) hA hS (va_runV (As := []) (rest := []) ⟨hx, hb, hml, hown, hts⟩ (c_X5_notes l D cT g b fu u_mo  o48 ho48 _) (cwV 0 hts gX5_addJob_X5_notes rfl rfl rfl (by decide +kernel) ⟨Nat.le_of_ble_eq_true rfl, Nat.le_of_ble_eq_true rfl⟩) ⟨PRE_blind, va_recv hK hP (ci := 5) (q0 := 0) rfl rfl, PRE_ok [0] (by decide) hP (va_D_adr hD rfl) hA hS hK hN hZ⟩ rfl rfl hl.1 rfl (lv_room (Nat.le_of_ble_eq_true rfl)) dX5_addJob_50 ⟨Nat.le_of_ble_eq_true rfl, Nat.le_of_ble_eq_true rfl⟩) rfl 1 rfl (by decide) (by decide) (fun H locs hP hS => ?_)
          refine lv_bipush (v := 17) hx hb dX5_addJob_53 (by decide) ?_
          refine lv_iconst (v := 4) hx hb dX5_addJob_55 (by decide) ?_
          refine lv_aload_n hx hb dX5_addJob_56 rfl (lv_at hl 0 rfl) ?_
          refine va_get (ci := 5) (v := .ref (g (b + 1))) (C := RX5) (T := TX5) (N := 12) hx hb hts iw_X5_addJob_X5 hown hK hP 0 rfl rfl 0 (by decide) (hts (.fieldLink RX5 7 "BallastTrackModel" "s" "[I") (List.mem_of_getElem? (i := 1) rfl)) (fun _ h9 => h9) rfl dX5_addJob_57 ?_
          refine lv_bipush (v := 16) hx hb dX5_addJob_60 (by decide) ?_
          obtain ⟨hi49, hf⟩ := ix_i hf
          refine va_iald hx hb hK hP 1 0 rfl rfl hi49 dX5_addJob_62 ?_
          refine lv_topi (fun x50 ex50 => ?_)
          replace hf := nm_i hf ex50
          refine lv_imul hx hb dX5_addJob_63 ?_
          refine lv_topi (fun x51 ex51 => ?_)
          replace hf := nm_i hf ex51
          refine lv_iadd hx hb dX5_addJob_64 ?_
          refine lv_topi (fun x52 ex52 => ?_)
          replace hf := nm_i hf ex52
          refine lv_istore (lv' := [(4, .int x52), (0, .ref (g b)), (1, .int p0), (2, .int p1), (3, .int p2)]) hx hb dX5_addJob_65 hl (by decide) rfl (fun ls hl => ?_)
          refine lv_aload_n hx hb dX5_addJob_67 rfl (lv_at hl 1 rfl) ?_
          refine va_get (ci := 5) (v := .ref (g (b + 1))) (C := RX5) (T := TX5) (N := 12) hx hb hts iw_X5_addJob_X5 hown hK hP 0 rfl rfl 0 (by decide) (hts (.fieldLink RX5 7 "BallastTrackModel" "s" "[I") (List.mem_of_getElem? (i := 1) rfl)) (fun _ h9 => h9) rfl dX5_addJob_68 ?_
          refine lv_iload hx hb dX5_addJob_71 (lv_at hl 0 rfl) ?_
          refine lv_iload_n hx hb dX5_addJob_73 rfl (lv_at hl 2 rfl) ?_
          obtain ⟨hi53, hf⟩ := ix_i hf
          refine va_iast hx hb hK hP (va_D_adr hD rfl) hS 1 0 rfl rfl hi53 dX5_addJob_74 (fun H locs hP _ hS => ?_)
          obtain ⟨u54, eu54⟩ : ∃ z : TM, z = M_ss_ o48 (upd (M_ss o48) x52.toNatClampNeg p0) := ⟨_, rfl⟩
          replace hf := nm_i hf eu54
          have hP : va_P D vwCl (List.flatten [wM cT g b u54]) H := by rw [eu54]; exact hP
          refine lv_aload_n hx hb dX5_addJob_75 rfl (lv_at hl 1 rfl) ?_
          refine va_get (ci := 5) (v := .ref (g (b + 1))) (C := RX5) (T := TX5) (N := 12) hx hb hts iw_X5_addJob_X5 hown hK hP 0 rfl rfl 0 (by decide) (hts (.fieldLink RX5 7 "BallastTrackModel" "s" "[I") (List.mem_of_getElem? (i := 1) rfl)) (fun _ h9 => h9) rfl dX5_addJob_76 ?_
          refine lv_iload hx hb dX5_addJob_79 (lv_at hl 0 rfl) ?_
          refine lv_iconst (v := 1) hx hb dX5_addJob_81 (by decide) ?_
          refine lv_iadd hx hb dX5_addJob_82 ?_
          refine lv_topi (fun x55 ex55 => ?_)
          replace hf := nm_i hf ex55
          refine lv_iload_n hx hb dX5_addJob_83 rfl (lv_at hl 3 rfl) ?_
          obtain ⟨hi56, hf⟩ := ix_i hf
          refine va_iast hx hb hK hP (va_D_adr hD rfl) hS 1 0 rfl rfl hi56 dX5_addJob_84 (fun H locs hP _ hS => ?_)
          obtain ⟨u57, eu57⟩ : ∃ z : TM, z = M_ss_ u54 (upd (M_ss u54) x55.toNatClampNeg p1) := ⟨_, rfl⟩
          replace hf := nm_i hf eu57
          have hP : va_P D vwCl (List.flatten [wM cT g b u57]) H := by rw [eu57]; exact hP
          refine lv_aload_n hx hb dX5_addJob_85 rfl (lv_at hl 1 rfl) ?_
          refine va_get (ci := 5) (v := .ref (g (b + 1))) (C := RX5) (T := TX5) (N := 12) hx hb hts iw_X5_addJob_X5 hown hK hP 0 rfl rfl 0 (by decide) (hts (.fieldLink RX5 7 "BallastTrackModel" "s" "[I") (List.mem_of_getElem? (i := 1) rfl)) (fun _ h9 => h9) rfl dX5_addJob_86 ?_
          refine lv_iload hx hb dX5_addJob_89 (lv_at hl 0 rfl) ?_
          refine lv_iconst (v := 2) hx hb dX5_addJob_91 (by decide) ?_
          refine lv_iadd hx hb dX5_addJob_92 ?_
          refine lv_topi (fun x58 ex58 => ?_)
          replace hf := nm_i hf ex58
          refine lv_iload_n hx hb dX5_addJob_93 rfl (lv_at hl 4 rfl) ?_
          obtain ⟨hi59, hf⟩ := ix_i hf
          refine va_iast hx hb hK hP (va_D_adr hD rfl) hS 1 0 rfl rfl hi59 dX5_addJob_94 (fun H locs hP _ hS => ?_)
          obtain ⟨u60, eu60⟩ : ∃ z : TM, z = M_ss_ u57 (upd (M_ss u57) x58.toNatClampNeg p2) := ⟨_, rfl⟩
          replace hf := nm_i hf eu60
          have hP : va_P D vwCl (List.flatten [wM cT g b u60]) H := by rw [eu60]; exact hP
          refine lv_aload_n hx hb dX5_addJob_95 rfl (lv_at hl 1 rfl) ?_
          refine va_get (ci := 5) (v := .ref (g (b + 1))) (C := RX5) (T := TX5) (N := 12) hx hb hts iw_X5_addJob_X5 hown hK hP 0 rfl rfl 0 (by decide) (hts (.fieldLink RX5 7 "BallastTrackModel" "s" "[I") (List.mem_of_getElem? (i := 1) rfl)) (fun _ h9 => h9) rfl dX5_addJob_96 ?_
          refine lv_iload hx hb dX5_addJob_99 (lv_at hl 0 rfl) ?_
          refine lv_iconst (v := 3) hx hb dX5_addJob_101 (by decide) ?_
          refine lv_iadd hx hb dX5_addJob_102 ?_
          refine lv_topi (fun x61 ex61 => ?_)
          replace hf := nm_i hf ex61
          refine lv_iload_n hx hb dX5_addJob_103 rfl (lv_at hl 2 rfl) ?_
          obtain ⟨hi62, hf⟩ := ix_i hf
          refine va_iast hx hb hK hP (va_D_adr hD rfl) hS 1 0 rfl rfl hi62 dX5_addJob_104 (fun H locs hP _ hS => ?_)
          obtain ⟨u63, eu63⟩ : ∃ z : TM, z = M_ss_ u60 (upd (M_ss u60) x61.toNatClampNeg p0) := ⟨_, rfl⟩
          replace hf := nm_i hf eu63
          have hP : va_P D vwCl (List.flatten [wM cT g b u63]) H := by rw [eu63]; exact hP
          refine lv_aload_n hx hb dX5_addJob_105 rfl (lv_at hl 1 rfl) ?_
          refine va_get (ci := 5) (v := .ref (g (b + 1))) (C := RX5) (T := TX5) (N := 12) hx hb hts iw_X5_addJob_X5 hown hK hP 0 rfl rfl 0 (by decide) (hts (.fieldLink RX5 7 "BallastTrackModel" "s" "[I") (List.mem_of_getElem? (i := 1) rfl)) (fun _ h9 => h9) rfl dX5_addJob_106 ?_
          refine lv_bipush (v := 16) hx hb dX5_addJob_109 (by decide) ?_
          refine lv_dup2_11 hx hb dX5_addJob_111 rfl rfl ?_
          obtain ⟨hi64, hf⟩ := ix_i hf
          refine va_iald hx hb hK hP 1 0 rfl rfl hi64 dX5_addJob_112 ?_
          refine lv_topi (fun x65 ex65 => ?_)
          replace hf := nm_i hf ex65
          refine lv_iconst (v := 1) hx hb dX5_addJob_113 (by decide) ?_
          refine lv_iadd hx hb dX5_addJob_114 ?_
          refine lv_topi (fun x66 ex66 => ?_)
          replace hf := nm_i hf ex66
          obtain ⟨hi67, hf⟩ := ix_i hf
          refine va_iast hx hb hK hP (va_D_adr hD rfl) hS 1 0 rfl rfl hi67 dX5_addJob_115 (fun H locs hP _ hS => ?_)
          obtain ⟨u68, eu68⟩ : ∃ z : TM, z = M_ss_ u63 (upd (M_ss u63) ((16 : Int32)).toNatClampNeg x66) := ⟨_, rfl⟩
          replace hf := nm_i hf eu68
          have hP : va_P D vwCl (List.flatten [wM cT g b u68]) H := by rw [eu68]; exact hP
          refine lv_aload_n hx hb dX5_addJob_116 rfl (lv_at hl 1 rfl) ?_
          refine va_get (ci := 5) (v := .ref (g (b + 1))) (C := RX5) (T := TX5) (N := 12) hx hb hts iw_X5_addJob_X5 hown hK hP 0 rfl rfl 0 (by decide) (hts (.fieldLink RX5 7 "BallastTrackModel" "s" "[I") (List.mem_of_getElem? (i := 1) rfl)) (fun _ h9 => h9) rfl dX5_addJob_117 ?_
          refine lv_bipush (v := 16) hx hb dX5_addJob_120 (by decide) ?_
          obtain ⟨hi69, hf⟩ := ix_i hf
          refine va_iald hx hb hK hP 1 0 rfl rfl hi69 dX5_addJob_122 ?_
          refine lv_topi (fun x70 ex70 => ?_)
          replace hf := nm_i hf ex70
          obtain rfl := Option.some.inj hf
          subst hQ
          exact en_i hx hb hr hP hS hlocks dX5_addJob_123
        · replace hf := it_f hf (not_not_intro c47)
          refine lv_ldc (v := -100003) hx hb hown (hts (.constant RX5 86 (-100003)) (List.mem_of_getElem? (i := 3) rfl)) dX5_addJob_46 ?_
          obtain rfl := Option.some.inj hf
          subst hQ
          exact en_i hx hb hr hP hS hlocks dX5_addJob_48
      · replace hf := it_f hf (not_not_intro c44)
        refine lv_ldc (v := -100001) hx hb hown (hts (.constant RX5 68 (-100001)) (List.mem_of_getElem? (i := 2) rfl)) dX5_addJob_31 ?_
        obtain rfl := Option.some.inj hf
        subst hQ
        exact en_i hx hb hr hP hS hlocks dX5_addJob_33
theorem iw_X5_drops_X5 : ∀ w ∈ u_ws RX5 TX5 12, w ∈ wsX5_drops := by decide +kernel
def lb_X5_drops_18 (fu : Nat)  (rec : Int32 → TM → Option (TM)) (v44 : Int32) (u45 : TM) : Option (TM) :=
ix ((16 : Int32)) 281 <|
nm ((M_ss u45) ((16 : Int32)).toNatClampNeg) fun (x49 : Int32) =>
nm ((4 : Int32) * x49) fun (x50 : Int32) =>
nm ((17 : Int32) + x50) fun (x51 : Int32) =>
if x51 ≤ v44 then (
some (u45)
)
else (
nm (v44 + (4 : Int32)) fun (x53 : Int32) =>
ix x53 281 <|
nm ((M_ss u45) x53.toNatClampNeg) fun (x55 : Int32) =>
ix v44 281 <|
nm (M_ss_ u45 (upd (M_ss u45) v44.toNatClampNeg x55)) fun (u57 : TM) =>
nm (v44 + (1 : Int32)) fun (x58 : Int32) =>
rec x58 u57
)

def lf_X5_drops_18 (fu : Nat)  : Nat → Int32 → TM → Option (TM) := lq_2 (lb_X5_drops_18 fu )
def f_X5_drops (fu : Nat) (u_mo : TM) (p0 : Int32) : Option (TM) :=
ix ((16 : Int32)) 281 <|
nm ((M_ss u_mo) ((16 : Int32)).toNatClampNeg) fun (x25 : Int32) =>
nm (x25 - (1 : Int32)) fun (x26 : Int32) =>
ix ((16 : Int32)) 281 <|
nm (M_ss_ u_mo (upd (M_ss u_mo) ((16 : Int32)).toNatClampNeg x26)) fun (u28 : TM) =>
nm ((4 : Int32) * p0) fun (x29 : Int32) =>
nm ((17 : Int32) + x29) fun (x30 : Int32) =>
bd (lf_X5_drops_18 fu  fu x30 u28) fun (z47 : TM) =>
some (z47)

abbrev rm_X5_drops : Room := { frames := 0, cells := 0, slots := 0, locals := 0 }
set_option maxHeartbeats 4000000 in
set_option maxRecDepth 100000 in
theorem c_X5_drops (l : Launch) (D : va_G) (cT : Nat → ClassId) (g : Nat → Nat) (b : Nat) (fu : Nat) (u_mo : TM) (p0 : Int32) (o : TM) (hf : f_X5_drops fu u_mo p0 = some o) (sz : Nat) : Met l yX5_drops wsX5_drops rm_X5_drops (va_Pc [.ref (g b), .int p0] (PRE D cT sz (List.flatten [wM cT g b u_mo]))) (QV D (List.flatten [wM cT g b o]) (va_A (List.flatten [wM cT g b u_mo]) sz)) 0 0 (va_A (List.flatten [wM cT g b u_mo]) sz) := by
  refine Met.ofW (cc := cX5_drops) (maxL := 3) (ret := none) (by decide) rfl ?_
  intro p e s m args below meth c s₁ B0 hml hv
  obtain ⟨hav, hsz, hP, hK, hD, hN, hZ⟩ := hv
  have hx := B0.exec
  have hb := B0.bytes
  have hr := B0.returns
  have hts := atoms_spec (ws := wsX5_drops) B0.pre
  have hown : s.vm.findClass RX5 = some m.cls := findClass_of_methodNamed B0.named
  have hlocks := B0.notSynchronized
  subst hsz
  have hD := hD.self (sz := s.heap.size)
  have hA : ∀ q : Nat, s.heap.size ≤ q → va_A (List.flatten [wM cT g b u_mo]) s.heap.size q := fun q h => Or.inr h
  generalize va_A (List.flatten [wM cT g b u_mo]) s.heap.size = A at hD hZ hA ⊢
  have hS : va_S A s.heap s.heap [] := va_S.rf
  have hl := lv_entry ([.ref (g b), .int p0]) (n := 3) (Nat.le_of_ble_eq_true rfl)
  rw [hav]
  rw [lg_entry_eq]
  generalize (lg_sl ([.ref (g b), .int p0]) ++ List.replicate (3 - (lg_sl ([.ref (g b), .int p0])).length) Slot.unset).toArray = ls at hl ⊢
  have hl : lv_has ls 3 [(0, .ref (g b)), (1, .int p0)] := hl
  rw [← hav]
  generalize hQ : MQ below _ _ _ _ _ _ = Q
  show W p l e rm_X5_drops s m args below meth c s.heap [] 0 0 Q (F0 m 0 ls [])
  unfold f_X5_drops at hf
  refine lv_aload_n hx hb dX5_drops_0 rfl (lv_at hl 0 rfl) ?_
  refine va_get (ci := 5) (v := .ref (g (b + 1))) (C := RX5) (T := TX5) (N := 12) hx hb hts iw_X5_drops_X5 hown hK hP 0 rfl rfl 0 (by decide) (hts (.fieldLink RX5 7 "BallastTrackModel" "s" "[I") (List.mem_of_getElem? (i := 1) rfl)) (fun _ h9 => h9) rfl dX5_drops_1 ?_
  refine lv_bipush (v := 16) hx hb dX5_drops_4 (by decide) ?_
  refine lv_dup2_11 hx hb dX5_drops_6 rfl rfl ?_
  obtain ⟨hi24, hf⟩ := ix_i hf
  refine va_iald hx hb hK hP 1 0 rfl rfl hi24 dX5_drops_7 ?_
  refine lv_topi (fun x25 ex25 => ?_)
  replace hf := nm_i hf ex25
  refine lv_iconst (v := 1) hx hb dX5_drops_8 (by decide) ?_
  refine lv_isub hx hb dX5_drops_9 ?_
  refine lv_topi (fun x26 ex26 => ?_)
  replace hf := nm_i hf ex26
  obtain ⟨hi27, hf⟩ := ix_i hf
  refine va_iast hx hb hK hP (va_D_adr hD rfl) hS 1 0 rfl rfl hi27 dX5_drops_10 (fun H locs hP _ hS => ?_)
  obtain ⟨u28, eu28⟩ : ∃ z : TM, z = M_ss_ u_mo (upd (M_ss u_mo) ((16 : Int32)).toNatClampNeg x26) := ⟨_, rfl⟩
  replace hf := nm_i hf eu28
  have hP : va_P D vwCl (List.flatten [wM cT g b u28]) H := by rw [eu28]; exact hP
  refine lv_bipush (v := 17) hx hb dX5_drops_11 (by decide) ?_
  refine lv_iconst (v := 4) hx hb dX5_drops_13 (by decide) ?_
  refine lv_iload_n hx hb dX5_drops_14 rfl (lv_at hl 1 rfl) ?_
  refine lv_imul hx hb dX5_drops_15 ?_
  refine lv_topi (fun x29 ex29 => ?_)
  replace hf := nm_i hf ex29
  refine lv_iadd hx hb dX5_drops_16 ?_
  refine lv_topi (fun x30 ex30 => ?_)
  replace hf := nm_i hf ex30
  refine lv_istore_n (lv' := [(2, .int x30), (0, .ref (g b)), (1, .int p0)]) hx hb dX5_drops_17 rfl hl (by decide) rfl (fun ls hl => ?_)
  obtain ⟨z47, hz47, hf⟩ := bd_i hf
  have hL18 : ∀ (n : Nat) (v44 : Int32) (u45 : TM) (z46 : TM), lf_X5_drops_18 fu  n v44 u45 = some z46 → ∀ (H : Heap) (locs : List Loc) (ls : Array Slot), va_P D vwCl (List.flatten [wM cT g b u45]) H → va_S A s.heap H locs → lv_has ls 3 [(0, .ref (g b)), (2, .int v44)] → (∀ (H : Heap) (locs : List Loc) (ls : Array Slot), va_P D vwCl (List.flatten [wM cT g b z46]) H → va_S A s.heap H locs → lv_has ls 3 [] → W p l e rm_X5_drops s m args below meth c H locs 0 0 Q (F0 m 54 ls [])) → W p l e rm_X5_drops s m args below meth c H locs 0 0 Q (F0 m 18 ls []) := by
    refine lq_2_ind (F := lb_X5_drops_18 fu ) (fun rec ih v44 u45 z46 hf H locs ls hP hS hl kx => ?_)
    unfold lb_X5_drops_18 at hf
    refine lv_iload_n hx hb dX5_drops_18 rfl (lv_at hl 1 rfl) ?_
    refine lv_bipush (v := 17) hx hb dX5_drops_19 (by decide) ?_
    refine lv_iconst (v := 4) hx hb dX5_drops_21 (by decide) ?_
    refine lv_aload_n hx hb dX5_drops_22 rfl (lv_at hl 0 rfl) ?_
    refine va_get (ci := 5) (v := .ref (g (b + 1))) (C := RX5) (T := TX5) (N := 12) hx hb hts iw_X5_drops_X5 hown hK hP 0 rfl rfl 0 (by decide) (hts (.fieldLink RX5 7 "BallastTrackModel" "s" "[I") (List.mem_of_getElem? (i := 1) rfl)) (fun _ h9 => h9) rfl dX5_drops_23 ?_
    refine lv_bipush (v := 16) hx hb dX5_drops_26 (by decide) ?_
    obtain ⟨hi48, hf⟩ := ix_i hf
    refine va_iald hx hb hK hP 1 0 rfl rfl hi48 dX5_drops_28 ?_
    refine lv_topi (fun x49 ex49 => ?_)
    replace hf := nm_i hf ex49
    refine lv_imul hx hb dX5_drops_29 ?_
    refine lv_topi (fun x50 ex50 => ?_)
    replace hf := nm_i hf ex50
    refine lv_iadd hx hb dX5_drops_30 ?_
    refine lv_topi (fun x51 ex51 => ?_)
    replace hf := nm_i hf ex51
    refine lv_icmp_ge (tgt := 54) hx hb dX5_drops_31 (by decide) (fun c52 => ?_) (fun c52 => ?_)
    · replace hf := it_t hf c52
      obtain rfl := Option.some.inj hf
      exact kx _ _ _ hP hS (lv_sub hl [] rfl)
    · replace hf := it_f hf c52
      refine lv_aload_n hx hb dX5_drops_34 rfl (lv_at hl 0 rfl) ?_
      refine va_get (ci := 5) (v := .ref (g (b + 1))) (C := RX5) (T := TX5) (N := 12) hx hb hts iw_X5_drops_X5 hown hK hP 0 rfl rfl 0 (by decide) (hts (.fieldLink RX5 7 "BallastTrackModel" "s" "[I") (List.mem_of_getElem? (i := 1) rfl)) (fun _ h9 => h9) rfl dX5_drops_35 ?_
      refine lv_iload_n hx hb dX5_drops_38 rfl (lv_at hl 1 rfl) ?_
      refine lv_aload_n hx hb dX5_drops_39 rfl (lv_at hl 0 rfl) ?_
      refine va_get (ci := 5) (v := .ref (g (b + 1))) (C := RX5) (T := TX5) (N := 12) hx hb hts iw_X5_drops_X5 hown hK hP 0 rfl rfl 0 (by decide) (hts (.fieldLink RX5 7 "BallastTrackModel" "s" "[I") (List.mem_of_getElem? (i := 1) rfl)) (fun _ h9 => h9) rfl dX5_drops_40 ?_
      refine lv_iload_n hx hb dX5_drops_43 rfl (lv_at hl 1 rfl) ?_
      refine lv_iconst (v := 4) hx hb dX5_drops_44 (by decide) ?_
      refine lv_iadd hx hb dX5_drops_45 ?_
      refine lv_topi (fun x53 ex53 => ?_)
      replace hf := nm_i hf ex53
      obtain ⟨hi54, hf⟩ := ix_i hf
      refine va_iald hx hb hK hP 1 0 rfl rfl hi54 dX5_drops_46 ?_
      refine lv_topi (fun x55 ex55 => ?_)
      replace hf := nm_i hf ex55
      obtain ⟨hi56, hf⟩ := ix_i hf
      refine va_iast hx hb hK hP (va_D_adr hD rfl) hS 1 0 rfl rfl hi56 dX5_drops_47 (fun H locs hP _ hS => ?_)
      obtain ⟨u57, eu57⟩ : ∃ z : TM, z = M_ss_ u45 (upd (M_ss u45) v44.toNatClampNeg x55) := ⟨_, rfl⟩
      replace hf := nm_i hf eu57
      have hP : va_P D vwCl (List.flatten [wM cT g b u57]) H := by rw [eu57]; exact hP
      obtain ⟨x58, ex58⟩ : ∃ z : Int32, z = v44 + (1 : Int32) := ⟨_, rfl⟩
      replace hf := nm_i hf ex58
      refine lv_iinc (v := x58) (lv' := [(2, .int x58), (0, .ref (g b))]) hx hb dX5_drops_48 hl (k := 1) rfl (by rw [ex58]; rfl) (by decide) rfl (fun ls hl => ?_)
      refine lv_goto (tgt := 18) hx hb dX5_drops_51 (by decide) ?_
      exact ih _ _ _ hf _ _ _ hP hS (lv_sub hl [1, 0] rfl) kx
  refine hL18 fu _ _ _ hz47 _ _ _ hP hS (lv_sub hl [1, 0] rfl) (fun H locs ls hP hS hl => ?_)
  obtain rfl := Option.some.inj hf
  subst hQ
  exact en_v hx hb hr hP hS hlocks dX5_drops_54
theorem iw_X5_cancelJobs_X5 : ∀ w ∈ u_ws RX5 TX5 12, w ∈ wsX5_cancelJobs := by decide +kernel
def lb_X5_cancelJobs_27 (fu : Nat) (p0 : Int32) (rec : Int32 → Int32 → TM → Option (Int32 × TM)) (v51 : Int32) (v52 : Int32) (u53 : TM) : Option (Int32 × TM) :=
if v52 < 0 then (
some (v51, u53)
)
else (
bd (f_X5_jobOf fu u53 v52 ((3 : Int32))) fun (o57 : Int32) =>
bd (f_X5_jobOf fu u53 v52 ((1 : Int32))) fun (o58 : Int32) =>
bd (f_X5_in fu  p0 o57 o58) fun (o59 : Bool) =>
jn (fun (x63 : Int32) (u64 : TM) =>
nm (v52 + (-1 : Int32)) fun (x67 : Int32) =>
rec x63 x67 u64
) fun K58_66 =>
if bI o59 = 0 then (
K58_66 v51 u53
)
else (
bd (f_X5_drops fu u53 v52) fun (o69 : TM) =>
nm (v51 + (1 : Int32)) fun (x70 : Int32) =>
K58_66 x70 o69
)
)

def lf_X5_cancelJobs_27 (fu : Nat) (p0 : Int32) : Nat → Int32 → Int32 → TM → Option (Int32 × TM) := lq_3 (lb_X5_cancelJobs_27 fu p0)
def f_X5_cancelJobs (fu : Nat) (u_mo : TM) (p0 : Int32) : Option (Int32 × TM) :=
bd (f_X5_isSleeper fu u_mo p0) fun (o28 : Bool) =>
if ¬ bI o28 = 0 then (
bd (f_X5_notes fu u_mo ) fun (o30 : TM) =>
ix ((16 : Int32)) 281 <|
nm ((M_ss o30) ((16 : Int32)).toNatClampNeg) fun (x32 : Int32) =>
nm (x32 - (1 : Int32)) fun (x33 : Int32) =>
bd (lf_X5_cancelJobs_27 fu p0 fu ((0 : Int32)) x33 o30) fun (z55 : Int32 × TM) =>
some (z55.1, z55.2)
)
else (
some ((-100001 : Int32), u_mo)
)

abbrev rm_X5_cancelJobs : Room := { frames := 2, cells := 0, slots := 0, locals := 43 }
set_option maxHeartbeats 4000000 in
set_option maxRecDepth 100000 in
theorem c_X5_cancelJobs (l : Launch) (D : va_G) (cT : Nat → ClassId) (g : Nat → Nat) (b : Nat) (fu : Nat) (u_mo : TM) (p0 : Int32) (o : Int32 × TM) (hf : f_X5_cancelJobs fu u_mo p0 = some o) (sz : Nat) : Met l yX5_cancelJobs wsX5_cancelJobs rm_X5_cancelJobs (va_Pc [.ref (g b), .int p0] (PRE D cT sz (List.flatten [wM cT g b u_mo]))) (QI D o.1 (List.flatten [wM cT g b o.2]) (va_A (List.flatten [wM cT g b u_mo]) sz)) 0 0 (va_A (List.flatten [wM cT g b u_mo]) sz) := by
  refine Met.ofW (cc := cX5_cancelJobs) (maxL := 4) (ret := (some .int)) (by decide) rfl ?_
  intro p e s m args below meth c s₁ B0 hml hv
  obtain ⟨hav, hsz, hP, hK, hD, hN, hZ⟩ := hv
  have hx := B0.exec
  have hb := B0.bytes
  have hr := B0.returns
  have hts := atoms_spec (ws := wsX5_cancelJobs) B0.pre
  have hown : s.vm.findClass RX5 = some m.cls := findClass_of_methodNamed B0.named
  have hlocks := B0.notSynchronized
  subst hsz
  have hD := hD.self (sz := s.heap.size)
  have hA : ∀ q : Nat, s.heap.size ≤ q → va_A (List.flatten [wM cT g b u_mo]) s.heap.size q := fun q h => Or.inr h
  generalize va_A (List.flatten [wM cT g b u_mo]) s.heap.size = A at hD hZ hA ⊢
  have hS : va_S A s.heap s.heap [] := va_S.rf
  have hl := lv_entry ([.ref (g b), .int p0]) (n := 4) (Nat.le_of_ble_eq_true rfl)
  rw [hav]
  rw [lg_entry_eq]
  generalize (lg_sl ([.ref (g b), .int p0]) ++ List.replicate (4 - (lg_sl ([.ref (g b), .int p0])).length) Slot.unset).toArray = ls at hl ⊢
  have hl : lv_has ls 4 [(0, .ref (g b)), (1, .int p0)] := hl
  rw [← hav]
  generalize hQ : MQ below _ _ _ _ _ _ = Q
  show W p l e rm_X5_cancelJobs s m args below meth c s.heap [] 0 0 Q (F0 m 0 ls [])
  unfold f_X5_cancelJobs at hf
  refine lv_aload_n hx hb dX5_cancelJobs_0 rfl (lv_at hl 0 rfl) ?_
  refine lv_iload_n hx hb dX5_cancelJobs_1 rfl (lv_at hl 1 rfl) ?_
  obtain ⟨o28, ho28, hf⟩ := bd_i hf
  refine cl_i [0] [] [wM cT g b u_mo] hP (va_D_adr hD rfl) hA hS (va_runV (As := [.int p0]) (rest := []) ⟨hx, hb, hml, hown, hts⟩ (c_X5_isSleeper l D cT g b fu u_mo p0 o28 ho28 _) (cwV 1 hts gX5_cancelJobs_X5_isSleeper rfl rfl rfl (by decide +kernel) ⟨Nat.le_of_ble_eq_true rfl, Nat.le_of_ble_eq_true rfl⟩) ⟨PRE_blind, va_recv hK hP (ci := 5) (q0 := 0) rfl rfl, PRE_ok [0] (by decide) hP (va_D_adr hD rfl) hA hS hK hN hZ⟩ rfl rfl hl.1 rfl (lv_room (Nat.le_of_ble_eq_true rfl)) dX5_cancelJobs_2 ⟨Nat.le_of_ble_eq_true rfl, Nat.le_of_ble_eq_true rfl⟩) rfl 1 rfl (by decide) (by decide) (fun H locs hP hS => ?_)
  refine lv_if_ne (tgt := 11) hx hb dX5_cancelJobs_5 (by decide) (fun c29 => ?_) (fun c29 => ?_)
  · replace hf := it_t hf c29
    refine lv_aload_n hx hb dX5_cancelJobs_11 rfl (lv_at hl 0 rfl) ?_
    obtain ⟨o30, ho30, hf⟩ := bd_i hf
    refine cl_v [0] [] [wM cT g b o30] hP (va_D_adr hD rfl) hA hS (va_runV (As := []) (rest := []) ⟨hx, hb, hml, hown, hts⟩ (c_X5_notes l D cT g b fu u_mo  o30 ho30 _) (cwV 0 hts gX5_cancelJobs_X5_notes rfl rfl rfl (by decide +kernel) ⟨Nat.le_of_ble_eq_true rfl, Nat.le_of_ble_eq_true rfl⟩) ⟨PRE_blind, va_recv hK hP (ci := 5) (q0 := 0) rfl rfl, PRE_ok [0] (by decide) hP (va_D_adr hD rfl) hA hS hK hN hZ⟩ rfl rfl hl.1 rfl (lv_room (Nat.le_of_ble_eq_true rfl)) dX5_cancelJobs_12 ⟨Nat.le_of_ble_eq_true rfl, Nat.le_of_ble_eq_true rfl⟩) rfl 1 rfl (by decide) (by decide) (fun H locs hP hS => ?_)
    refine lv_iconst (v := 0) hx hb dX5_cancelJobs_15 (by decide) ?_
    refine lv_istore_n (lv' := [(2, .int ((0 : Int32))), (0, .ref (g b)), (1, .int p0)]) hx hb dX5_cancelJobs_16 rfl hl (by decide) rfl (fun ls hl => ?_)
    refine lv_aload_n hx hb dX5_cancelJobs_17 rfl (lv_at hl 1 rfl) ?_
    refine va_get (ci := 5) (v := .ref (g (b + 1))) (C := RX5) (T := TX5) (N := 12) hx hb hts iw_X5_cancelJobs_X5 hown hK hP 0 rfl rfl 0 (by decide) (hts (.fieldLink RX5 7 "BallastTrackModel" "s" "[I") (List.mem_of_getElem? (i := 2) rfl)) (fun _ h9 => h9) rfl dX5_cancelJobs_18 ?_
    refine lv_bipush (v := 16) hx hb dX5_cancelJobs_21 (by decide) ?_
    obtain ⟨hi31, hf⟩ := ix_i hf
    refine va_iald hx hb hK hP 1 0 rfl rfl hi31 dX5_cancelJobs_23 ?_
    refine lv_topi (fun x32 ex32 => ?_)
    replace hf := nm_i hf ex32
    refine lv_iconst (v := 1) hx hb dX5_cancelJobs_24 (by decide) ?_
    refine lv_isub hx hb dX5_cancelJobs_25 ?_
    refine lv_topi (fun x33 ex33 => ?_)
    replace hf := nm_i hf ex33
    refine lv_istore_n (lv' := [(3, .int x33), (2, .int ((0 : Int32))), (0, .ref (g b)), (1, .int p0)]) hx hb dX5_cancelJobs_26 rfl hl (by decide) rfl (fun ls hl => ?_)
    obtain ⟨z55, hz55, hf⟩ := bd_i hf
    have hL27 : ∀ (n : Nat) (v51 : Int32) (v52 : Int32) (u53 : TM) (z54 : Int32 × TM), lf_X5_cancelJobs_27 fu p0 n v51 v52 u53 = some z54 → ∀ (H : Heap) (locs : List Loc) (ls : Array Slot), va_P D vwCl (List.flatten [wM cT g b u53]) H → va_S A s.heap H locs → lv_has ls 4 [(0, .ref (g b)), (1, .int p0), (2, .int v51), (3, .int v52)] → (∀ (H : Heap) (locs : List Loc) (ls : Array Slot), va_P D vwCl (List.flatten [wM cT g b z54.2]) H → va_S A s.heap H locs → lv_has ls 4 [(2, .int z54.1)] → W p l e rm_X5_cancelJobs s m args below meth c H locs 0 0 Q (F0 m 64 ls [])) → W p l e rm_X5_cancelJobs s m args below meth c H locs 0 0 Q (F0 m 27 ls []) := by
      refine lq_3_ind (F := lb_X5_cancelJobs_27 fu p0) (fun rec ih v51 v52 u53 z54 hf H locs ls hP hS hl kx => ?_)
      unfold lb_X5_cancelJobs_27 at hf
      refine lv_iload_n hx hb dX5_cancelJobs_27 rfl (lv_at hl 3 rfl) ?_
      refine lv_if_lt (tgt := 64) hx hb dX5_cancelJobs_28 (by decide) (fun c56 => ?_) (fun c56 => ?_)
      · replace hf := it_t hf c56
        obtain rfl := Option.some.inj hf
        exact kx _ _ _ hP hS (lv_sub hl [2] rfl)
      · replace hf := it_f hf c56
        refine lv_iload_n hx hb dX5_cancelJobs_31 rfl (lv_at hl 1 rfl) ?_
        refine lv_aload_n hx hb dX5_cancelJobs_32 rfl (lv_at hl 0 rfl) ?_
        refine lv_iload_n hx hb dX5_cancelJobs_33 rfl (lv_at hl 3 rfl) ?_
        refine lv_iconst (v := 3) hx hb dX5_cancelJobs_34 (by decide) ?_
        obtain ⟨o57, ho57, hf⟩ := bd_i hf
        refine cl_i [0] [] [wM cT g b u53] hP (va_D_adr hD rfl) hA hS (va_runV (As := [.int v52, .int ((3 : Int32))]) (rest := [.int p0]) ⟨hx, hb, hml, hown, hts⟩ (c_X5_jobOf l D cT g b fu u53 v52 ((3 : Int32)) o57 ho57 _) (cwV 2 hts gX5_cancelJobs_X5_jobOf rfl rfl rfl (by decide +kernel) ⟨Nat.le_of_ble_eq_true rfl, Nat.le_of_ble_eq_true rfl⟩) ⟨PRE_blind, va_recv hK hP (ci := 5) (q0 := 0) rfl rfl, PRE_ok [0] (by decide) hP (va_D_adr hD rfl) hA hS hK hN hZ⟩ rfl rfl hl.1 rfl (lv_room (Nat.le_of_ble_eq_true rfl)) dX5_cancelJobs_35 ⟨Nat.le_of_ble_eq_true rfl, Nat.le_of_ble_eq_true rfl⟩) rfl 1 rfl (by decide) (by decide) (fun H locs hP hS => ?_)
        refine lv_aload_n hx hb dX5_cancelJobs_38 rfl (lv_at hl 0 rfl) ?_
        refine lv_iload_n hx hb dX5_cancelJobs_39 rfl (lv_at hl 3 rfl) ?_
        refine lv_iconst (v := 1) hx hb dX5_cancelJobs_40 (by decide) ?_
        obtain ⟨o58, ho58, hf⟩ := bd_i hf
        refine cl_i [0] [] [wM cT g b u53] hP (va_D_adr hD rfl) hA hS (va_runV (As := [.int v52, .int ((1 : Int32))]) (rest := [.int o57, .int p0]) ⟨hx, hb, hml, hown, hts⟩ (c_X5_jobOf l D cT g b fu u53 v52 ((1 : Int32)) o58 ho58 _) (cwV 2 hts gX5_cancelJobs_X5_jobOf rfl rfl rfl (by decide +kernel) ⟨Nat.le_of_ble_eq_true rfl, Nat.le_of_ble_eq_true rfl⟩) ⟨PRE_blind, va_recv hK hP (ci := 5) (q0 := 0) rfl rfl, PRE_ok [0] (by decide) hP (va_D_adr hD rfl) hA hS hK hN hZ⟩ rfl rfl hl.1 rfl (lv_room (Nat.le_of_ble_eq_true rfl)) dX5_cancelJobs_41 ⟨Nat.le_of_ble_eq_true rfl, Nat.le_of_ble_eq_true rfl⟩) rfl 1 rfl (by decide) (by decide) (fun H locs hP hS => ?_)
        obtain ⟨o59, ho59, hf⟩ := bd_i hf
        refine cl_i [] [0] [wM cT g b u53] hP (va_D_adr hD rfl) hA hS (va_runS (As := [.int p0, .int o57, .int o58]) (rest := []) ⟨hx, hb, hml, hown, hts⟩ (c_X5_in l D cT g  fu  p0 o57 o58 o59 ho59 _) (va_cwS 3 hts gX5_cancelJobs_X5_in rfl rfl rfl (by decide +kernel) ⟨Nat.le_of_ble_eq_true rfl, Nat.le_of_ble_eq_true rfl⟩) ⟨PRE_blind, PRE_ok [] (by decide) hP (va_D_adr hD rfl) hA hS hK hN hZ⟩ rfl rfl hl.1 rfl (lv_room (Nat.le_of_ble_eq_true rfl)) dX5_cancelJobs_44 ⟨Nat.le_of_ble_eq_true rfl, Nat.le_of_ble_eq_true rfl⟩) rfl 1 rfl (by decide) (by decide) (fun H locs hP hS => ?_)
        obtain ⟨K58_66, eK58_66, hf⟩ := jn_i hf
        have hK58_66 : ∀ (x63 : Int32) (u64 : TM) (H : Heap) (locs : List Loc) (ls : Array Slot), K58_66 x63 u64 = some z54 → va_P D vwCl (List.flatten [wM cT g b u64]) H → va_S A s.heap H locs → lv_has ls 4 [(0, .ref (g b)), (1, .int p0), (2, .int x63), (3, .int v52)] → W p l e rm_X5_cancelJobs s m args below meth c H locs 0 0 Q (F0 m 58 ls []) := by
          intro x63 u64 H locs ls hf hP hS hl
          rw [eK58_66] at hf
          obtain ⟨x67, ex67⟩ : ∃ z : Int32, z = v52 + (-1 : Int32) := ⟨_, rfl⟩
          replace hf := nm_i hf ex67
          refine lv_iinc (v := x67) (lv' := [(3, .int x67), (0, .ref (g b)), (1, .int p0), (2, .int x63)]) hx hb dX5_cancelJobs_58 hl (k := 3) rfl (by rw [ex67]; rfl) (by decide) rfl (fun ls hl => ?_)
          refine lv_goto (tgt := 27) hx hb dX5_cancelJobs_61 (by decide) ?_
          exact ih _ _ _ _ hf _ _ _ hP hS (lv_sub hl [1, 2, 3, 0] rfl) kx
        clear eK58_66
        refine lv_if_eq (tgt := 58) hx hb dX5_cancelJobs_47 (by decide) (fun c68 => ?_) (fun c68 => ?_)
        · replace hf := it_t hf c68
          exact hK58_66 _ _ _ _ _ hf hP hS (lv_sub hl [0, 1, 2, 3] rfl)
        · replace hf := it_f hf c68
          refine lv_aload_n hx hb dX5_cancelJobs_50 rfl (lv_at hl 0 rfl) ?_
          refine lv_iload_n hx hb dX5_cancelJobs_51 rfl (lv_at hl 3 rfl) ?_
          obtain ⟨o69, ho69, hf⟩ := bd_i hf
          refine cl_v [0] [] [wM cT g b o69] hP (va_D_adr hD rfl) hA hS (va_runV (As := [.int v52]) (rest := []) ⟨hx, hb, hml, hown, hts⟩ (c_X5_drops l D cT g b fu u53 v52 o69 ho69 _) (cwV 1 hts gX5_cancelJobs_X5_drops rfl rfl rfl (by decide +kernel) ⟨Nat.le_of_ble_eq_true rfl, Nat.le_of_ble_eq_true rfl⟩) ⟨PRE_blind, va_recv hK hP (ci := 5) (q0 := 0) rfl rfl, PRE_ok [0] (by decide) hP (va_D_adr hD rfl) hA hS hK hN hZ⟩ rfl rfl hl.1 rfl (lv_room (Nat.le_of_ble_eq_true rfl)) dX5_cancelJobs_52 ⟨Nat.le_of_ble_eq_true rfl, Nat.le_of_ble_eq_true rfl⟩) rfl 1 rfl (by decide) (by decide) (fun H locs hP hS => ?_)
          obtain ⟨x70, ex70⟩ : ∃ z : Int32, z = v51 + (1 : Int32) := ⟨_, rfl⟩
          replace hf := nm_i hf ex70
          refine lv_iinc (v := x70) (lv' := [(2, .int x70), (0, .ref (g b)), (1, .int p0), (3, .int v52)]) hx hb dX5_cancelJobs_55 hl (k := 2) rfl (by rw [ex70]; rfl) (by decide) rfl (fun ls hl => ?_)
          exact hK58_66 _ _ _ _ _ hf hP hS (lv_sub hl [1, 2, 0, 3] rfl)
    refine hL27 fu _ _ _ _ hz55 _ _ _ hP hS (lv_sub hl [2, 3, 1, 0] rfl) (fun H locs ls hP hS hl => ?_)
    refine lv_iload_n hx hb dX5_cancelJobs_64 rfl (lv_at hl 0 rfl) ?_
    obtain rfl := Option.some.inj hf
    subst hQ
    exact en_i hx hb hr hP hS hlocks dX5_cancelJobs_65
  · replace hf := it_f hf (not_not_intro c29)
    refine lv_ldc (v := -100001) hx hb hown (hts (.constant RX5 68 (-100001)) (List.mem_of_getElem? (i := 1) rfl)) dX5_cancelJobs_8 ?_
    obtain rfl := Option.some.inj hf
    subst hQ
    exact en_i hx hb hr hP hS hlocks dX5_cancelJobs_10
theorem iw_X5_liftOf_X5 : ∀ w ∈ u_ws RX5 TX5 12, w ∈ wsX5_liftOf := by decide +kernel
def f_X5_liftOf (fu : Nat) (u_mo : TM) (p0 : Int32) (p1 : Int32) : Option (Int32) :=
nm ((41 : Int32) + p0) fun (x8 : Int32) =>
ix x8 281 <|
nm ((M_ss u_mo) x8.toNatClampNeg) fun (x10 : Int32) =>
nm (p1 - x10) fun (x11 : Int32) =>
ix ((7 : Int32)) 281 <|
nm ((M_ss u_mo) ((7 : Int32)).toNatClampNeg) fun (x13 : Int32) =>
bd (f_X5_lesser fu  x11 x13) fun (o14 : Int32) =>
some (o14)

abbrev rm_X5_liftOf : Room := { frames := 1, cells := 0, slots := 0, locals := 21 }
set_option maxHeartbeats 4000000 in
set_option maxRecDepth 100000 in
theorem c_X5_liftOf (l : Launch) (D : va_G) (cT : Nat → ClassId) (g : Nat → Nat) (b : Nat) (fu : Nat) (u_mo : TM) (p0 : Int32) (p1 : Int32) (o : Int32) (hf : f_X5_liftOf fu u_mo p0 p1 = some o) (sz : Nat) : Met l yX5_liftOf wsX5_liftOf rm_X5_liftOf (va_Pc [.ref (g b), .int p0, .int p1] (PRE D cT sz (List.flatten [wM cT g b u_mo]))) (QI D o (List.flatten [wM cT g b u_mo]) (va_A (List.flatten [wM cT g b u_mo]) sz)) 0 0 (va_A (List.flatten [wM cT g b u_mo]) sz) := by
  refine Met.ofW (cc := cX5_liftOf) (maxL := 3) (ret := (some .int)) (by decide) rfl ?_
  intro p e s m args below meth c s₁ B0 hml hv
  obtain ⟨hav, hsz, hP, hK, hD, hN, hZ⟩ := hv
  have hx := B0.exec
  have hb := B0.bytes
  have hr := B0.returns
  have hts := atoms_spec (ws := wsX5_liftOf) B0.pre
  have hown : s.vm.findClass RX5 = some m.cls := findClass_of_methodNamed B0.named
  have hlocks := B0.notSynchronized
  subst hsz
  have hD := hD.self (sz := s.heap.size)
  have hA : ∀ q : Nat, s.heap.size ≤ q → va_A (List.flatten [wM cT g b u_mo]) s.heap.size q := fun q h => Or.inr h
  generalize va_A (List.flatten [wM cT g b u_mo]) s.heap.size = A at hD hZ hA ⊢
  have hS : va_S A s.heap s.heap [] := va_S.rf
  have hl := lv_entry ([.ref (g b), .int p0, .int p1]) (n := 3) (Nat.le_of_ble_eq_true rfl)
  rw [hav]
  rw [lg_entry_eq]
  generalize (lg_sl ([.ref (g b), .int p0, .int p1]) ++ List.replicate (3 - (lg_sl ([.ref (g b), .int p0, .int p1])).length) Slot.unset).toArray = ls at hl ⊢
  have hl : lv_has ls 3 [(0, .ref (g b)), (1, .int p0), (2, .int p1)] := hl
  rw [← hav]
  generalize hQ : MQ below _ _ _ _ _ _ = Q
  show W p l e rm_X5_liftOf s m args below meth c s.heap [] 0 0 Q (F0 m 0 ls [])
  unfold f_X5_liftOf at hf
  refine lv_iload_n hx hb dX5_liftOf_0 rfl (lv_at hl 2 rfl) ?_
  refine lv_aload_n hx hb dX5_liftOf_1 rfl (lv_at hl 0 rfl) ?_
  refine va_get (ci := 5) (v := .ref (g (b + 1))) (C := RX5) (T := TX5) (N := 12) hx hb hts iw_X5_liftOf_X5 hown hK hP 0 rfl rfl 0 (by decide) (hts (.fieldLink RX5 7 "BallastTrackModel" "s" "[I") (List.mem_of_getElem? (i := 1) rfl)) (fun _ h9 => h9) rfl dX5_liftOf_2 ?_
  refine lv_bipush (v := 41) hx hb dX5_liftOf_5 (by decide) ?_
  refine lv_iload_n hx hb dX5_liftOf_7 rfl (lv_at hl 1 rfl) ?_
  refine lv_iadd hx hb dX5_liftOf_8 ?_
  refine lv_topi (fun x8 ex8 => ?_)
  replace hf := nm_i hf ex8
  obtain ⟨hi9, hf⟩ := ix_i hf
  refine va_iald hx hb hK hP 1 0 rfl rfl hi9 dX5_liftOf_9 ?_
  refine lv_topi (fun x10 ex10 => ?_)
  replace hf := nm_i hf ex10
  refine lv_isub hx hb dX5_liftOf_10 ?_
  refine lv_topi (fun x11 ex11 => ?_)
  replace hf := nm_i hf ex11
  refine lv_aload_n hx hb dX5_liftOf_11 rfl (lv_at hl 0 rfl) ?_
  refine va_get (ci := 5) (v := .ref (g (b + 1))) (C := RX5) (T := TX5) (N := 12) hx hb hts iw_X5_liftOf_X5 hown hK hP 0 rfl rfl 0 (by decide) (hts (.fieldLink RX5 7 "BallastTrackModel" "s" "[I") (List.mem_of_getElem? (i := 1) rfl)) (fun _ h9 => h9) rfl dX5_liftOf_12 ?_
  refine lv_bipush (v := 7) hx hb dX5_liftOf_15 (by decide) ?_
  obtain ⟨hi12, hf⟩ := ix_i hf
  refine va_iald hx hb hK hP 1 0 rfl rfl hi12 dX5_liftOf_17 ?_
  refine lv_topi (fun x13 ex13 => ?_)
  replace hf := nm_i hf ex13
  obtain ⟨o14, ho14, hf⟩ := bd_i hf
  refine cl_i [] [0] [wM cT g b u_mo] hP (va_D_adr hD rfl) hA hS (va_runS (As := [.int x11, .int x13]) (rest := []) ⟨hx, hb, hml, hown, hts⟩ (c_X5_lesser l D cT g  fu  x11 x13 o14 ho14 _) (va_cwS 2 hts gX5_liftOf_X5_lesser rfl rfl rfl (by decide +kernel) ⟨Nat.le_of_ble_eq_true rfl, Nat.le_of_ble_eq_true rfl⟩) ⟨PRE_blind, PRE_ok [] (by decide) hP (va_D_adr hD rfl) hA hS hK hN hZ⟩ rfl rfl hl.1 rfl (lv_room (Nat.le_of_ble_eq_true rfl)) dX5_liftOf_18 ⟨Nat.le_of_ble_eq_true rfl, Nat.le_of_ble_eq_true rfl⟩) rfl 1 rfl (by decide) (by decide) (fun H locs hP hS => ?_)
  obtain rfl := Option.some.inj hf
  subst hQ
  exact en_i hx hb hr hP hS hlocks dX5_liftOf_21
def f_X5_minutesFor (fu : Nat)  (p0 : Int32) : Option (Int32) :=
nm (p0 + (49 : Int32)) fun (x4 : Int32) =>
nm (x4 / (50 : Int32)) fun (x5 : Int32) =>
nm ((2 : Int32) + x5) fun (x6 : Int32) =>
some (x6)

abbrev rm_X5_minutesFor : Room := { frames := 0, cells := 0, slots := 0, locals := 0 }
set_option maxHeartbeats 4000000 in
set_option maxRecDepth 100000 in
theorem c_X5_minutesFor (l : Launch) (D : va_G) (cT : Nat → ClassId) (g : Nat → Nat) (fu : Nat)  (p0 : Int32) (o : Int32) (hf : f_X5_minutesFor fu  p0 = some o) (sz : Nat) : Met l yX5_minutesFor wsX5_minutesFor rm_X5_minutesFor (va_Pc [.int p0] (PRE D cT sz (List.flatten []))) (QI D o (List.flatten []) (va_A (List.flatten []) sz)) 0 0 (va_A (List.flatten []) sz) := by
  refine Met.ofW (cc := cX5_minutesFor) (maxL := 1) (ret := (some .int)) (by decide) rfl ?_
  intro p e s m args below meth c s₁ B0 hml hv
  obtain ⟨hav, hsz, hP, hK, hD, hN, hZ⟩ := hv
  have hx := B0.exec
  have hb := B0.bytes
  have hr := B0.returns
  have hts := atoms_spec (ws := wsX5_minutesFor) B0.pre
  have hown : s.vm.findClass RX5 = some m.cls := findClass_of_methodNamed B0.named
  have hlocks := B0.notSynchronized
  subst hsz
  have hD := hD.self (sz := s.heap.size)
  have hA : ∀ q : Nat, s.heap.size ≤ q → va_A (List.flatten []) s.heap.size q := fun q h => Or.inr h
  generalize va_A (List.flatten []) s.heap.size = A at hD hZ hA ⊢
  have hS : va_S A s.heap s.heap [] := va_S.rf
  have hl := lv_entry ([.int p0]) (n := 1) (Nat.le_of_ble_eq_true rfl)
  rw [hav]
  rw [lg_entry_eq]
  generalize (lg_sl ([.int p0]) ++ List.replicate (1 - (lg_sl ([.int p0])).length) Slot.unset).toArray = ls at hl ⊢
  have hl : lv_has ls 1 [(0, .int p0)] := hl
  rw [← hav]
  generalize hQ : MQ below _ _ _ _ _ _ = Q
  show W p l e rm_X5_minutesFor s m args below meth c s.heap [] 0 0 Q (F0 m 0 ls [])
  unfold f_X5_minutesFor at hf
  refine lv_iconst (v := 2) hx hb dX5_minutesFor_0 (by decide) ?_
  refine lv_iload_n hx hb dX5_minutesFor_1 rfl (lv_at hl 0 rfl) ?_
  refine lv_bipush (v := 49) hx hb dX5_minutesFor_2 (by decide) ?_
  refine lv_iadd hx hb dX5_minutesFor_4 ?_
  refine lv_topi (fun x4 ex4 => ?_)
  replace hf := nm_i hf ex4
  refine lv_bipush (v := 50) hx hb dX5_minutesFor_5 (by decide) ?_
  refine lv_idiv hx hb dX5_minutesFor_7 (by decide) ?_
  refine lv_topi (fun x5 ex5 => ?_)
  replace hf := nm_i hf ex5
  refine lv_iadd hx hb dX5_minutesFor_8 ?_
  refine lv_topi (fun x6 ex6 => ?_)
  replace hf := nm_i hf ex6
  obtain rfl := Option.some.inj hf
  subst hQ
  exact en_i hx hb hr hP hS hlocks dX5_minutesFor_9
theorem iw_X5_lift_X5 : ∀ w ∈ u_ws RX5 TX5 12, w ∈ wsX5_lift := by decide +kernel
def f_X5_lift (fu : Nat) (u_mo : TM) (p0 : Int32) (p1 : Int32) : Option (TM) :=
nm ((41 : Int32) + p0) fun (x26 : Int32) =>
ix x26 281 <|
nm ((M_ss u_mo) x26.toNatClampNeg) fun (x28 : Int32) =>
nm (x28 + p1) fun (x29 : Int32) =>
ix x26 281 <|
nm (M_ss_ u_mo (upd (M_ss u_mo) x26.toNatClampNeg x29)) fun (u31 : TM) =>
nm ((221 : Int32) + p0) fun (x32 : Int32) =>
ix x32 281 <|
nm ((M_ss u31) x32.toNatClampNeg) fun (x34 : Int32) =>
nm (x34 + p1) fun (x35 : Int32) =>
ix x32 281 <|
nm (M_ss_ u31 (upd (M_ss u31) x32.toNatClampNeg x35)) fun (u37 : TM) =>
ix ((10 : Int32)) 281 <|
nm ((M_ss u37) ((10 : Int32)).toNatClampNeg) fun (x39 : Int32) =>
nm (x39 + p1) fun (x40 : Int32) =>
ix ((10 : Int32)) 281 <|
nm (M_ss_ u37 (upd (M_ss u37) ((10 : Int32)).toNatClampNeg x40)) fun (u42 : TM) =>
nm ((101 : Int32) + p0) fun (x43 : Int32) =>
nm ((101 : Int32) + p0) fun (x44 : Int32) =>
ix x44 281 <|
nm ((M_ss u42) x44.toNatClampNeg) fun (x46 : Int32) =>
nm (x46 + (3 : Int32)) fun (x47 : Int32) =>
bd (f_X5_lesser fu  ((100 : Int32)) x47) fun (o48 : Int32) =>
ix x43 281 <|
nm (M_ss_ u42 (upd (M_ss u42) x43.toNatClampNeg o48)) fun (u50 : TM) =>
some (u50)

abbrev rm_X5_lift : Room := { frames := 1, cells := 0, slots := 0, locals := 21 }
set_option maxHeartbeats 4000000 in
set_option maxRecDepth 100000 in
theorem c_X5_lift (l : Launch) (D : va_G) (cT : Nat → ClassId) (g : Nat → Nat) (b : Nat) (fu : Nat) (u_mo : TM) (p0 : Int32) (p1 : Int32) (o : TM) (hf : f_X5_lift fu u_mo p0 p1 = some o) (sz : Nat) : Met l yX5_lift wsX5_lift rm_X5_lift (va_Pc [.ref (g b), .int p0, .int p1] (PRE D cT sz (List.flatten [wM cT g b u_mo]))) (QV D (List.flatten [wM cT g b o]) (va_A (List.flatten [wM cT g b u_mo]) sz)) 0 0 (va_A (List.flatten [wM cT g b u_mo]) sz) := by
  refine Met.ofW (cc := cX5_lift) (maxL := 3) (ret := none) (by decide) rfl ?_
  intro p e s m args below meth c s₁ B0 hml hv
  obtain ⟨hav, hsz, hP, hK, hD, hN, hZ⟩ := hv
  have hx := B0.exec
  have hb := B0.bytes
  have hr := B0.returns
  have hts := atoms_spec (ws := wsX5_lift) B0.pre
  have hown : s.vm.findClass RX5 = some m.cls := findClass_of_methodNamed B0.named
  have hlocks := B0.notSynchronized
  subst hsz
  have hD := hD.self (sz := s.heap.size)
  have hA : ∀ q : Nat, s.heap.size ≤ q → va_A (List.flatten [wM cT g b u_mo]) s.heap.size q := fun q h => Or.inr h
  generalize va_A (List.flatten [wM cT g b u_mo]) s.heap.size = A at hD hZ hA ⊢
  have hS : va_S A s.heap s.heap [] := va_S.rf
  have hl := lv_entry ([.ref (g b), .int p0, .int p1]) (n := 3) (Nat.le_of_ble_eq_true rfl)
  rw [hav]
  rw [lg_entry_eq]
  generalize (lg_sl ([.ref (g b), .int p0, .int p1]) ++ List.replicate (3 - (lg_sl ([.ref (g b), .int p0, .int p1])).length) Slot.unset).toArray = ls at hl ⊢
  have hl : lv_has ls 3 [(0, .ref (g b)), (1, .int p0), (2, .int p1)] := hl
  rw [← hav]
  generalize hQ : MQ below _ _ _ _ _ _ = Q
  show W p l e rm_X5_lift s m args below meth c s.heap [] 0 0 Q (F0 m 0 ls [])
  unfold f_X5_lift at hf
  refine lv_aload_n hx hb dX5_lift_0 rfl (lv_at hl 0 rfl) ?_
  refine va_get (ci := 5) (v := .ref (g (b + 1))) (C := RX5) (T := TX5) (N := 12) hx hb hts iw_X5_lift_X5 hown hK hP 0 rfl rfl 0 (by decide) (hts (.fieldLink RX5 7 "BallastTrackModel" "s" "[I") (List.mem_of_getElem? (i := 1) rfl)) (fun _ h9 => h9) rfl dX5_lift_1 ?_
  refine lv_bipush (v := 41) hx hb dX5_lift_4 (by decide) ?_
  refine lv_iload_n hx hb dX5_lift_6 rfl (lv_at hl 1 rfl) ?_
  refine lv_iadd hx hb dX5_lift_7 ?_
  refine lv_topi (fun x26 ex26 => ?_)
  replace hf := nm_i hf ex26
  refine lv_dup2_11 hx hb dX5_lift_8 rfl rfl ?_
  obtain ⟨hi27, hf⟩ := ix_i hf
  refine va_iald hx hb hK hP 1 0 rfl rfl hi27 dX5_lift_9 ?_
  refine lv_topi (fun x28 ex28 => ?_)
  replace hf := nm_i hf ex28
  refine lv_iload_n hx hb dX5_lift_10 rfl (lv_at hl 2 rfl) ?_
  refine lv_iadd hx hb dX5_lift_11 ?_
  refine lv_topi (fun x29 ex29 => ?_)
  replace hf := nm_i hf ex29
  obtain ⟨hi30, hf⟩ := ix_i hf
  refine va_iast hx hb hK hP (va_D_adr hD rfl) hS 1 0 rfl rfl hi30 dX5_lift_12 (fun H locs hP _ hS => ?_)
  obtain ⟨u31, eu31⟩ : ∃ z : TM, z = M_ss_ u_mo (upd (M_ss u_mo) x26.toNatClampNeg x29) := ⟨_, rfl⟩
  replace hf := nm_i hf eu31
  have hP : va_P D vwCl (List.flatten [wM cT g b u31]) H := by rw [eu31]; exact hP
  refine lv_aload_n hx hb dX5_lift_13 rfl (lv_at hl 0 rfl) ?_
  refine va_get (ci := 5) (v := .ref (g (b + 1))) (C := RX5) (T := TX5) (N := 12) hx hb hts iw_X5_lift_X5 hown hK hP 0 rfl rfl 0 (by decide) (hts (.fieldLink RX5 7 "BallastTrackModel" "s" "[I") (List.mem_of_getElem? (i := 1) rfl)) (fun _ h9 => h9) rfl dX5_lift_14 ?_
  refine lv_sipush (v := 221) hx hb dX5_lift_17 (by decide) ?_
  refine lv_iload_n hx hb dX5_lift_20 rfl (lv_at hl 1 rfl) ?_
  refine lv_iadd hx hb dX5_lift_21 ?_
  refine lv_topi (fun x32 ex32 => ?_)
  replace hf := nm_i hf ex32
  refine lv_dup2_11 hx hb dX5_lift_22 rfl rfl ?_
  obtain ⟨hi33, hf⟩ := ix_i hf
  refine va_iald hx hb hK hP 1 0 rfl rfl hi33 dX5_lift_23 ?_
  refine lv_topi (fun x34 ex34 => ?_)
  replace hf := nm_i hf ex34
  refine lv_iload_n hx hb dX5_lift_24 rfl (lv_at hl 2 rfl) ?_
  refine lv_iadd hx hb dX5_lift_25 ?_
  refine lv_topi (fun x35 ex35 => ?_)
  replace hf := nm_i hf ex35
  obtain ⟨hi36, hf⟩ := ix_i hf
  refine va_iast hx hb hK hP (va_D_adr hD rfl) hS 1 0 rfl rfl hi36 dX5_lift_26 (fun H locs hP _ hS => ?_)
  obtain ⟨u37, eu37⟩ : ∃ z : TM, z = M_ss_ u31 (upd (M_ss u31) x32.toNatClampNeg x35) := ⟨_, rfl⟩
  replace hf := nm_i hf eu37
  have hP : va_P D vwCl (List.flatten [wM cT g b u37]) H := by rw [eu37]; exact hP
  refine lv_aload_n hx hb dX5_lift_27 rfl (lv_at hl 0 rfl) ?_
  refine va_get (ci := 5) (v := .ref (g (b + 1))) (C := RX5) (T := TX5) (N := 12) hx hb hts iw_X5_lift_X5 hown hK hP 0 rfl rfl 0 (by decide) (hts (.fieldLink RX5 7 "BallastTrackModel" "s" "[I") (List.mem_of_getElem? (i := 1) rfl)) (fun _ h9 => h9) rfl dX5_lift_28 ?_
  refine lv_bipush (v := 10) hx hb dX5_lift_31 (by decide) ?_
  refine lv_dup2_11 hx hb dX5_lift_33 rfl rfl ?_
  obtain ⟨hi38, hf⟩ := ix_i hf
  refine va_iald hx hb hK hP 1 0 rfl rfl hi38 dX5_lift_34 ?_
  refine lv_topi (fun x39 ex39 => ?_)
  replace hf := nm_i hf ex39
  refine lv_iload_n hx hb dX5_lift_35 rfl (lv_at hl 2 rfl) ?_
  refine lv_iadd hx hb dX5_lift_36 ?_
  refine lv_topi (fun x40 ex40 => ?_)
  replace hf := nm_i hf ex40
  obtain ⟨hi41, hf⟩ := ix_i hf
  refine va_iast hx hb hK hP (va_D_adr hD rfl) hS 1 0 rfl rfl hi41 dX5_lift_37 (fun H locs hP _ hS => ?_)
  obtain ⟨u42, eu42⟩ : ∃ z : TM, z = M_ss_ u37 (upd (M_ss u37) ((10 : Int32)).toNatClampNeg x40) := ⟨_, rfl⟩
  replace hf := nm_i hf eu42
  have hP : va_P D vwCl (List.flatten [wM cT g b u42]) H := by rw [eu42]; exact hP
  refine lv_aload_n hx hb dX5_lift_38 rfl (lv_at hl 0 rfl) ?_
  refine va_get (ci := 5) (v := .ref (g (b + 1))) (C := RX5) (T := TX5) (N := 12) hx hb hts iw_X5_lift_X5 hown hK hP 0 rfl rfl 0 (by decide) (hts (.fieldLink RX5 7 "BallastTrackModel" "s" "[I") (List.mem_of_getElem? (i := 1) rfl)) (fun _ h9 => h9) rfl dX5_lift_39 ?_
  refine lv_bipush (v := 101) hx hb dX5_lift_42 (by decide) ?_
  refine lv_iload_n hx hb dX5_lift_44 rfl (lv_at hl 1 rfl) ?_
  refine lv_iadd hx hb dX5_lift_45 ?_
  refine lv_topi (fun x43 ex43 => ?_)
  replace hf := nm_i hf ex43
  refine lv_bipush (v := 100) hx hb dX5_lift_46 (by decide) ?_
  refine lv_aload_n hx hb dX5_lift_48 rfl (lv_at hl 0 rfl) ?_
  refine va_get (ci := 5) (v := .ref (g (b + 1))) (C := RX5) (T := TX5) (N := 12) hx hb hts iw_X5_lift_X5 hown hK hP 0 rfl rfl 0 (by decide) (hts (.fieldLink RX5 7 "BallastTrackModel" "s" "[I") (List.mem_of_getElem? (i := 1) rfl)) (fun _ h9 => h9) rfl dX5_lift_49 ?_
  refine lv_bipush (v := 101) hx hb dX5_lift_52 (by decide) ?_
  refine lv_iload_n hx hb dX5_lift_54 rfl (lv_at hl 1 rfl) ?_
  refine lv_iadd hx hb dX5_lift_55 ?_
  refine lv_topi (fun x44 ex44 => ?_)
  replace hf := nm_i hf ex44
  obtain ⟨hi45, hf⟩ := ix_i hf
  refine va_iald hx hb hK hP 1 0 rfl rfl hi45 dX5_lift_56 ?_
  refine lv_topi (fun x46 ex46 => ?_)
  replace hf := nm_i hf ex46
  refine lv_iconst (v := 3) hx hb dX5_lift_57 (by decide) ?_
  refine lv_iadd hx hb dX5_lift_58 ?_
  refine lv_topi (fun x47 ex47 => ?_)
  replace hf := nm_i hf ex47
  obtain ⟨o48, ho48, hf⟩ := bd_i hf
  refine cl_i [] [0] [wM cT g b u42] hP (va_D_adr hD rfl) hA hS (va_runS (As := [.int ((100 : Int32)), .int x47]) (rest := [.int x43, .ref (g (b + 1))]) ⟨hx, hb, hml, hown, hts⟩ (c_X5_lesser l D cT g  fu  ((100 : Int32)) x47 o48 ho48 _) (va_cwS 2 hts gX5_lift_X5_lesser rfl rfl rfl (by decide +kernel) ⟨Nat.le_of_ble_eq_true rfl, Nat.le_of_ble_eq_true rfl⟩) ⟨PRE_blind, PRE_ok [] (by decide) hP (va_D_adr hD rfl) hA hS hK hN hZ⟩ rfl rfl hl.1 rfl (lv_room (Nat.le_of_ble_eq_true rfl)) dX5_lift_59 ⟨Nat.le_of_ble_eq_true rfl, Nat.le_of_ble_eq_true rfl⟩) rfl 1 rfl (by decide) (by decide) (fun H locs hP hS => ?_)
  obtain ⟨hi49, hf⟩ := ix_i hf
  refine va_iast hx hb hK hP (va_D_adr hD rfl) hS 1 0 rfl rfl hi49 dX5_lift_62 (fun H locs hP _ hS => ?_)
  obtain ⟨u50, eu50⟩ : ∃ z : TM, z = M_ss_ u42 (upd (M_ss u42) x43.toNatClampNeg o48) := ⟨_, rfl⟩
  replace hf := nm_i hf eu50
  have hP : va_P D vwCl (List.flatten [wM cT g b u50]) H := by rw [eu50]; exact hP
  obtain rfl := Option.some.inj hf
  subst hQ
  exact en_v hx hb hr hP hS hlocks dX5_lift_63
