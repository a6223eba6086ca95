theorem iw_X2_findLoads_X1 : ∀ w ∈ u_ws RX1 TX1 9, w ∈ wsX2_findLoads := by decide +kernel
theorem iw_X2_findLoads_X2 : ∀ w ∈ u_ws RX2 TX2 8, w ∈ wsX2_findLoads := by decide +kernel
def lb_X2_findLoads_6 (fu : Nat) (u_st : TS) (rec : Int32 → Int32 → Int32 → TV → Option (Int32 × Int32 × TV)) (v63 : Int32) (v64 : Int32) (v65 : Int32) (u66 : TV) : Option (Int32 × Int32 × TV) :=
nm (S_sl u_st) fun (x69 : Int32) =>
if x69 ≤ v65 then (
some (v63, v64, u66)
)
else (
ix v65 60 <|
nm ((V_ha u66) v65.toNatClampNeg) fun (x72 : Int32) =>
jn (fun (x80 : Int32) (x81 : Int32) (u82 : TV) =>
nm (v65 + (1 : Int32)) fun (x85 : Int32) =>
rec x80 x81 x85 u82
) fun K57_84 =>
if x72 = 0 then (
ix v65 60 <|
nm (V_lo_ u66 (upd (V_lo u66) v65.toNatClampNeg ((2 : Int32)))) fun (u88 : TV) =>
bd (f_X2_handOn fu u88 u_st v63 v65 v64) fun (o89 : TV) =>
K57_84 v65 ((0 : Int32)) o89
)
else (
ix v65 60 <|
nm (V_lo_ u66 (upd (V_lo u66) v65.toNatClampNeg ((0 : Int32)))) fun (u91 : TV) =>
nm (v64 + (1 : Int32)) fun (x92 : Int32) =>
K57_84 v63 x92 u91
)
)

def lf_X2_findLoads_6 (fu : Nat) (u_st : TS) : Nat → Int32 → Int32 → Int32 → TV → Option (Int32 × Int32 × TV) := lq_4 (lb_X2_findLoads_6 fu u_st)
def f_X2_findLoads (fu : Nat) (u_sv : TV) (u_st : TS)  : Option (TV) :=
bd (lf_X2_findLoads_6 fu u_st fu ((-1 : Int32)) ((0 : Int32)) ((0 : Int32)) u_sv) fun (z68 : Int32 × Int32 × TV) =>
bd (f_X2_handOn fu z68.2.2 u_st z68.1 ((-1 : Int32)) z68.2.1) fun (o93 : TV) =>
some (o93)

abbrev rm_X2_findLoads : Room := { frames := 1, cells := 0, slots := 0, locals := 23 }
set_option maxHeartbeats 4000000 in
set_option maxRecDepth 100000 in
theorem c_X2_findLoads (l : Launch) (D : va_G) (cT : Nat → ClassId) (g : Nat → Nat) (b t : Nat) (fu : Nat) (u_sv : TV) (u_st : TS)  (o : TV) (hf : f_X2_findLoads fu u_sv u_st  = some o) (sz : Nat) : Met l yX2_findLoads wsX2_findLoads rm_X2_findLoads (va_Pc [.ref (g b)] (PRE D cT sz (List.flatten [wV cT g b t u_sv, wS cT g t u_st]))) (QV D (List.flatten [wV cT g b t o, wS cT g t u_st]) (va_A (List.flatten [wV cT g b t u_sv, wS cT g t u_st]) sz)) 0 0 (va_A (List.flatten [wV cT g b t u_sv, wS cT g t u_st]) sz) := by
  refine Met.ofW (cc := cX2_findLoads) (maxL := 4) (ret := none) (by decide) rfl ?_
  intro p e s m args below meth c s₁ B0 hml hv
  obtain ⟨hav, hsz, hP, hK, hD, hN, hZ⟩ := hv
  have hx := B0.exec
  have hb := B0.bytes
  have hr := B0.returns
  have hts := atoms_spec (ws := wsX2_findLoads) B0.pre
  have hown : s.vm.findClass RX2 = some m.cls := findClass_of_methodNamed B0.named
  have hlocks := B0.notSynchronized
  subst hsz
  have hD := hD.self (sz := s.heap.size)
  have hA : ∀ q : Nat, s.heap.size ≤ q → va_A (List.flatten [wV cT g b t u_sv, wS cT g t u_st]) s.heap.size q := fun q h => Or.inr h
  generalize va_A (List.flatten [wV cT g b t u_sv, wS cT g t u_st]) s.heap.size = A at hD hZ hA ⊢
  have hS : va_S A s.heap s.heap [] := va_S.rf
  have hl := lv_entry ([.ref (g b)]) (n := 4) (Nat.le_of_ble_eq_true rfl)
  rw [hav]
  rw [lg_entry_eq]
  generalize (lg_sl ([.ref (g b)]) ++ List.replicate (4 - (lg_sl ([.ref (g b)])).length) Slot.unset).toArray = ls at hl ⊢
  have hl : lv_has ls 4 [(0, .ref (g b))] := hl
  rw [← hav]
  generalize hQ : MQ below _ _ _ _ _ _ = Q
  show W p l e rm_X2_findLoads s m args below meth c s.heap [] 0 0 Q (F0 m 0 ls [])
  unfold f_X2_findLoads at hf
  refine lv_iconst (v := -1) hx hb dX2_findLoads_0 (by decide) ?_
  refine lv_istore_n (lv' := [(1, .int ((-1 : Int32))), (0, .ref (g b))]) hx hb dX2_findLoads_1 rfl hl (by decide) rfl (fun ls hl => ?_)
  refine lv_iconst (v := 0) hx hb dX2_findLoads_2 (by decide) ?_
  refine lv_istore_n (lv' := [(2, .int ((0 : Int32))), (1, .int ((-1 : Int32))), (0, .ref (g b))]) hx hb dX2_findLoads_3 rfl hl (by decide) rfl (fun ls hl => ?_)
  refine lv_iconst (v := 0) hx hb dX2_findLoads_4 (by decide) ?_
  refine lv_istore_n (lv' := [(3, .int ((0 : Int32))), (2, .int ((0 : Int32))), (1, .int ((-1 : Int32))), (0, .ref (g b))]) hx hb dX2_findLoads_5 rfl hl (by decide) rfl (fun ls hl => ?_)
  obtain ⟨z68, hz68, hf⟩ := bd_i hf
  have hL6 : ∀ (n : Nat) (v63 : Int32) (v64 : Int32) (v65 : Int32) (u66 : TV) (z67 : Int32 × Int32 × TV), lf_X2_findLoads_6 fu u_st n v63 v64 v65 u66 = some z67 → ∀ (H : Heap) (locs : List Loc) (ls : Array Slot), va_P D vwCl (List.flatten [wV cT g b t u66, wS cT g t u_st]) H → va_S A s.heap H locs → lv_has ls 4 [(0, .ref (g b)), (1, .int v63), (2, .int v64), (3, .int v65)] → (∀ (H : Heap) (locs : List Loc) (ls : Array Slot), va_P D vwCl (List.flatten [wV cT g b t z67.2.2, wS cT g t u_st]) H → va_S A s.heap H locs → lv_has ls 4 [(0, .ref (g b)), (1, .int z67.1), (2, .int z67.2.1)] → W p l e rm_X2_findLoads s m args below meth c H locs 0 0 Q (F0 m 63 ls [])) → W p l e rm_X2_findLoads s m args below meth c H locs 0 0 Q (F0 m 6 ls []) := by
    refine lq_4_ind (F := lb_X2_findLoads_6 fu u_st) (fun rec ih v63 v64 v65 u66 z67 hf H locs ls hP hS hl kx => ?_)
    unfold lb_X2_findLoads_6 at hf
    refine lv_iload_n hx hb dX2_findLoads_6 rfl (lv_at hl 3 rfl) ?_
    refine lv_aload_n hx hb dX2_findLoads_7 rfl (lv_at hl 0 rfl) ?_
    refine va_get (ci := 2) (v := .ref (g t)) (C := RX2) (T := TX2) (N := 8) hx hb hts iw_X2_findLoads_X2 hown hK hP 0 rfl rfl 0 (by decide) (hts (.fieldLink RX2 35 "BallastTrack$Survey" "track" "LBallastTrack$State;") (List.mem_of_getElem? (i := 1) rfl)) (fun _ h9 => h9) rfl dX2_findLoads_8 ?_
    refine va_get (ci := 1) (v := .int (S_sl u_st)) (C := RX1) (T := TX1) (N := 9) hx hb hts iw_X2_findLoads_X1 hown hK hP 4 rfl rfl 0 (by decide) (hts (.fieldLink RX2 60 "BallastTrack$State" "sleepers" "I") (List.mem_of_getElem? (i := 2) rfl)) (fun _ h9 => h9) rfl dX2_findLoads_11 ?_
    refine lv_topi (fun x69 ex69 => ?_)
    replace hf := nm_i hf ex69
    refine lv_icmp_ge (tgt := 63) hx hb dX2_findLoads_14 (by decide) (fun c70 => ?_) (fun c70 => ?_)
    · replace hf := it_t hf c70
      obtain rfl := Option.some.inj hf
      exact kx _ _ _ hP hS (lv_sub hl [0, 1, 2] rfl)
    · replace hf := it_f hf c70
      refine lv_aload_n hx hb dX2_findLoads_17 rfl (lv_at hl 0 rfl) ?_
      refine va_get (ci := 2) (v := .ref (g (b + 3))) (C := RX2) (T := TX2) (N := 8) hx hb hts iw_X2_findLoads_X2 hown hK hP 0 rfl rfl 3 (by decide) (hts (.fieldLink RX2 18 "BallastTrack$Survey" "hanging" "[Z") (List.mem_of_getElem? (i := 3) rfl)) (fun _ h9 => h9) rfl dX2_findLoads_18 ?_
      refine lv_iload_n hx hb dX2_findLoads_21 rfl (lv_at hl 3 rfl) ?_
      obtain ⟨hi71, hf⟩ := ix_i hf
      refine va_zald hx hb hK hP 3 1 rfl rfl hi71 dX2_findLoads_22 ?_
      refine lv_topi (fun x72 ex72 => ?_)
      replace hf := nm_i hf ex72
      obtain ⟨K57_84, eK57_84, hf⟩ := jn_i hf
      have hK57_84 : ∀ (x80 : Int32) (x81 : Int32) (u82 : TV) (H : Heap) (locs : List Loc) (ls : Array Slot), K57_84 x80 x81 u82 = some z67 → va_P D vwCl (List.flatten [wV cT g b t u82, wS cT g t u_st]) H → va_S A s.heap H locs → lv_has ls 4 [(0, .ref (g b)), (1, .int x80), (2, .int x81), (3, .int v65)] → W p l e rm_X2_findLoads s m args below meth c H locs 0 0 Q (F0 m 57 ls []) := by
        intro x80 x81 u82 H locs ls hf hP hS hl
        rw [eK57_84] at hf
        obtain ⟨x85, ex85⟩ : ∃ z : Int32, z = v65 + (1 : Int32) := ⟨_, rfl⟩
        replace hf := nm_i hf ex85
        refine lv_iinc (v := x85) (lv' := [(3, .int x85), (0, .ref (g b)), (1, .int x80), (2, .int x81)]) hx hb dX2_findLoads_57 hl (k := 3) rfl (by rw [ex85]; rfl) (by decide) rfl (fun ls hl => ?_)
        refine lv_goto (tgt := 6) hx hb dX2_findLoads_60 (by decide) ?_
        exact ih _ _ _ _ _ hf _ _ _ hP hS (lv_sub hl [1, 2, 3, 0] rfl) kx
      clear eK57_84
      refine lv_if_eq (tgt := 39) hx hb dX2_findLoads_23 (by decide) (fun c86 => ?_) (fun c86 => ?_)
      · replace hf := it_t hf c86
        refine lv_aload_n hx hb dX2_findLoads_39 rfl (lv_at hl 0 rfl) ?_
        refine va_get (ci := 2) (v := .ref (g (b + 2))) (C := RX2) (T := TX2) (N := 8) hx hb hts iw_X2_findLoads_X2 hown hK hP 0 rfl rfl 2 (by decide) (hts (.fieldLink RX2 15 "BallastTrack$Survey" "loads" "[I") (List.mem_of_getElem? (i := 4) rfl)) (fun _ h9 => h9) rfl dX2_findLoads_40 ?_
        refine lv_iload_n hx hb dX2_findLoads_43 rfl (lv_at hl 3 rfl) ?_
        refine lv_iconst (v := 2) hx hb dX2_findLoads_44 (by decide) ?_
        obtain ⟨hi87, hf⟩ := ix_i hf
        refine va_iast hx hb hK hP (va_D_adr hD rfl) hS 2 0 rfl rfl hi87 dX2_findLoads_45 (fun H locs hP _ hS => ?_)
        obtain ⟨u88, eu88⟩ : ∃ z : TV, z = V_lo_ u66 (upd (V_lo u66) v65.toNatClampNeg ((2 : Int32))) := ⟨_, rfl⟩
        replace hf := nm_i hf eu88
        have hP : va_P D vwCl (List.flatten [wV cT g b t u88, wS cT g t u_st]) H := by rw [eu88]; exact hP
        refine lv_aload_n hx hb dX2_findLoads_46 rfl (lv_at hl 0 rfl) ?_
        refine lv_iload_n hx hb dX2_findLoads_47 rfl (lv_at hl 1 rfl) ?_
        refine lv_iload_n hx hb dX2_findLoads_48 rfl (lv_at hl 3 rfl) ?_
        refine lv_iload_n hx hb dX2_findLoads_49 rfl (lv_at hl 2 rfl) ?_
        obtain ⟨o89, ho89, hf⟩ := bd_i hf
        refine cl_v [0, 1] [] [wV cT g b t o89, wS cT g t u_st] hP (va_D_adr hD rfl) hA hS (va_runV (As := [.int v63, .int v65, .int v64]) (rest := []) ⟨hx, hb, hml, hown, hts⟩ (c_X2_handOn l D cT g b t fu u88 u_st v63 v65 v64 o89 ho89 _) (cwV 3 hts gX2_findLoads_X2_handOn rfl rfl rfl (by decide +kernel) ⟨Nat.le_of_ble_eq_true rfl, Nat.le_of_ble_eq_true rfl⟩) ⟨PRE_blind, va_recv hK hP (ci := 2) (q0 := 0) rfl rfl, PRE_ok [0, 1] (by decide) hP (va_D_adr hD rfl) hA hS hK hN hZ⟩ rfl rfl hl.1 rfl (lv_room (Nat.le_of_ble_eq_true rfl)) dX2_findLoads_50 ⟨Nat.le_of_ble_eq_true rfl, Nat.le_of_ble_eq_true rfl⟩) rfl 2 rfl (by decide) (by decide) (fun H locs hP hS => ?_)
        refine lv_iload_n hx hb dX2_findLoads_53 rfl (lv_at hl 3 rfl) ?_
        refine lv_istore_n (lv' := [(1, .int v65), (0, .ref (g b)), (2, .int v64), (3, .int v65)]) hx hb dX2_findLoads_54 rfl hl (by decide) rfl (fun ls hl => ?_)
        refine lv_iconst (v := 0) hx hb dX2_findLoads_55 (by decide) ?_
        refine lv_istore_n (lv' := [(2, .int ((0 : Int32))), (1, .int v65), (0, .ref (g b)), (3, .int v65)]) hx hb dX2_findLoads_56 rfl hl (by decide) rfl (fun ls hl => ?_)
        exact hK57_84 _ _ _ _ _ _ hf hP hS (lv_sub hl [2, 1, 0, 3] rfl)
      · replace hf := it_f hf c86
        refine lv_aload_n hx hb dX2_findLoads_26 rfl (lv_at hl 0 rfl) ?_
        refine va_get (ci := 2) (v := .ref (g (b + 2))) (C := RX2) (T := TX2) (N := 8) hx hb hts iw_X2_findLoads_X2 hown hK hP 0 rfl rfl 2 (by decide) (hts (.fieldLink RX2 15 "BallastTrack$Survey" "loads" "[I") (List.mem_of_getElem? (i := 4) rfl)) (fun _ h9 => h9) rfl dX2_findLoads_27 ?_
        refine lv_iload_n hx hb dX2_findLoads_30 rfl (lv_at hl 3 rfl) ?_
        refine lv_iconst (v := 0) hx hb dX2_findLoads_31 (by decide) ?_
        obtain ⟨hi90, hf⟩ := ix_i hf
        refine va_iast hx hb hK hP (va_D_adr hD rfl) hS 2 0 rfl rfl hi90 dX2_findLoads_32 (fun H locs hP _ hS => ?_)
        obtain ⟨u91, eu91⟩ : ∃ z : TV, z = V_lo_ u66 (upd (V_lo u66) v65.toNatClampNeg ((0 : Int32))) := ⟨_, rfl⟩
        replace hf := nm_i hf eu91
        have hP : va_P D vwCl (List.flatten [wV cT g b t u91, wS cT g t u_st]) H := by rw [eu91]; exact hP
        obtain ⟨x92, ex92⟩ : ∃ z : Int32, z = v64 + (1 : Int32) := ⟨_, rfl⟩
        replace hf := nm_i hf ex92
        refine lv_iinc (v := x92) (lv' := [(2, .int x92), (0, .ref (g b)), (1, .int v63), (3, .int v65)]) hx hb dX2_findLoads_33 hl (k := 2) rfl (by rw [ex92]; rfl) (by decide) rfl (fun ls hl => ?_)
        refine lv_goto (tgt := 57) hx hb dX2_findLoads_36 (by decide) ?_
        exact hK57_84 _ _ _ _ _ _ hf hP hS (lv_sub hl [1, 2, 0, 3] rfl)
  refine hL6 fu _ _ _ _ _ hz68 _ _ _ hP hS (lv_sub hl [3, 2, 1, 0] rfl) (fun H locs ls hP hS hl => ?_)
  refine lv_aload_n hx hb dX2_findLoads_63 rfl (lv_at hl 0 rfl) ?_
  refine lv_iload_n hx hb dX2_findLoads_64 rfl (lv_at hl 1 rfl) ?_
  refine lv_iconst (v := -1) hx hb dX2_findLoads_65 (by decide) ?_
  refine lv_iload_n hx hb dX2_findLoads_66 rfl (lv_at hl 2 rfl) ?_
  obtain ⟨o93, ho93, hf⟩ := bd_i hf
  refine cl_v [0, 1] [] [wV cT g b t o93, wS cT g t u_st] hP (va_D_adr hD rfl) hA hS (va_runV (As := [.int z68.1, .int ((-1 : Int32)), .int z68.2.1]) (rest := []) ⟨hx, hb, hml, hown, hts⟩ (c_X2_handOn l D cT g b t fu z68.2.2 u_st z68.1 ((-1 : Int32)) z68.2.1 o93 ho93 _) (cwV 3 hts gX2_findLoads_X2_handOn rfl rfl rfl (by decide +kernel) ⟨Nat.le_of_ble_eq_true rfl, Nat.le_of_ble_eq_true rfl⟩) ⟨PRE_blind, va_recv hK hP (ci := 2) (q0 := 0) rfl rfl, PRE_ok [0, 1] (by decide) hP (va_D_adr hD rfl) hA hS hK hN hZ⟩ rfl rfl hl.1 rfl (lv_room (Nat.le_of_ble_eq_true rfl)) dX2_findLoads_67 ⟨Nat.le_of_ble_eq_true rfl, Nat.le_of_ble_eq_true rfl⟩) rfl 2 rfl (by decide) (by decide) (fun H locs hP hS => ?_)
  obtain rfl := Option.some.inj hf
  subst hQ
  exact en_v hx hb hr hP hS hlocks dX2_findLoads_70
