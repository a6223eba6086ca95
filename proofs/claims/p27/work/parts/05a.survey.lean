theorem iw_X2_voidAt_X1 : ∀ w ∈ u_ws RX1 TX1 9, w ∈ wsX2_voidAt := by decide +kernel
theorem iw_X2_voidAt_X2 : ∀ w ∈ u_ws RX2 TX2 8, w ∈ wsX2_voidAt := by decide +kernel
def f_X2_voidAt (fu : Nat) (u_sv : TV) (u_st : TS) (p0 : Int32) : Option (Int32) :=
ix p0 60 <|
nm ((V_he u_sv) p0.toNatClampNeg) fun (x7 : Int32) =>
ix p0 60 <|
nm ((S_lv u_st) p0.toNatClampNeg) fun (x9 : Int32) =>
nm (x7 - x9) fun (x10 : Int32) =>
some (x10)

abbrev rm_X2_voidAt : Room := { frames := 0, cells := 0, slots := 0, locals := 0 }
set_option maxHeartbeats 4000000 in
set_option maxRecDepth 100000 in
theorem c_X2_voidAt (l : Launch) (D : va_G) (cT : Nat → ClassId) (g : Nat → Nat) (b t : Nat) (fu : Nat) (u_sv : TV) (u_st : TS) (p0 : Int32) (o : Int32) (hf : f_X2_voidAt fu u_sv u_st p0 = some o) (sz : Nat) : Met l yX2_voidAt wsX2_voidAt rm_X2_voidAt (va_Pc [.ref (g b), .int p0] (PRE D cT sz (List.flatten [wV cT g b t u_sv, wS cT g t u_st]))) (QI D o (List.flatten [wV cT g b t u_sv, wS cT g t u_st]) (va_A (List.flatten [wV cT g b t u_sv, wS cT g t u_st]) sz)) 0 0 (va_A (List.flatten [wV cT g b t u_sv, wS cT g t u_st]) sz) := by
  refine Met.ofW (cc := cX2_voidAt) (maxL := 2) (ret := (some .int)) (by decide) rfl ?_
  intro p e s m args below meth c s₁ B0 hml hv
  obtain ⟨hav, hsz, hP, hK, hD, hN, hZ⟩ := hv
  have hx := B0.exec
  have hb := B0.bytes
  have hr := B0.returns
  have hts := atoms_spec (ws := wsX2_voidAt) B0.pre
  have hown : s.vm.findClass RX2 = some m.cls := findClass_of_methodNamed B0.named
  have hlocks := B0.notSynchronized
  subst hsz
  have hD := hD.self (sz := s.heap.size)
  have hA : ∀ q : Nat, s.heap.size ≤ q → va_A (List.flatten [wV cT g b t u_sv, wS cT g t u_st]) s.heap.size q := fun q h => Or.inr h
  generalize va_A (List.flatten [wV cT g b t u_sv, wS cT g t u_st]) s.heap.size = A at hD hZ hA ⊢
  have hS : va_S A s.heap s.heap [] := va_S.rf
  have hl := lv_entry ([.ref (g b), .int p0]) (n := 2) (Nat.le_of_ble_eq_true rfl)
  rw [hav]
  rw [lg_entry_eq]
  generalize (lg_sl ([.ref (g b), .int p0]) ++ List.replicate (2 - (lg_sl ([.ref (g b), .int p0])).length) Slot.unset).toArray = ls at hl ⊢
  have hl : lv_has ls 2 [(0, .ref (g b)), (1, .int p0)] := hl
  rw [← hav]
  generalize hQ : MQ below _ _ _ _ _ _ = Q
  show W p l e rm_X2_voidAt s m args below meth c s.heap [] 0 0 Q (F0 m 0 ls [])
  unfold f_X2_voidAt at hf
  refine lv_aload_n hx hb dX2_voidAt_0 rfl (lv_at hl 0 rfl) ?_
  refine va_get (ci := 2) (v := .ref (g (b + 1))) (C := RX2) (T := TX2) (N := 8) hx hb hts iw_X2_voidAt_X2 hown hK hP 0 rfl rfl 1 (by decide) (hts (.fieldLink RX2 9 "BallastTrack$Survey" "heights" "[I") (List.mem_of_getElem? (i := 1) rfl)) (fun _ h9 => h9) rfl dX2_voidAt_1 ?_
  refine lv_iload_n hx hb dX2_voidAt_4 rfl (lv_at hl 1 rfl) ?_
  obtain ⟨hi6, hf⟩ := ix_i hf
  refine va_iald hx hb hK hP 1 0 rfl rfl hi6 dX2_voidAt_5 ?_
  refine lv_topi (fun x7 ex7 => ?_)
  replace hf := nm_i hf ex7
  refine lv_aload_n hx hb dX2_voidAt_6 rfl (lv_at hl 0 rfl) ?_
  refine va_get (ci := 2) (v := .ref (g t)) (C := RX2) (T := TX2) (N := 8) hx hb hts iw_X2_voidAt_X2 hown hK hP 0 rfl rfl 0 (by decide) (hts (.fieldLink RX2 35 "BallastTrack$Survey" "track" "LBallastTrack$State;") (List.mem_of_getElem? (i := 2) rfl)) (fun _ h9 => h9) rfl dX2_voidAt_7 ?_
  refine va_get (ci := 1) (v := .ref (g (t + 2))) (C := RX1) (T := TX1) (N := 9) hx hb hts iw_X2_voidAt_X1 hown hK hP 4 rfl rfl 3 (by decide) (hts (.fieldLink RX2 52 "BallastTrack$State" "levels" "[I") (List.mem_of_getElem? (i := 3) rfl)) (fun _ h9 => h9) rfl dX2_voidAt_10 ?_
  refine lv_iload_n hx hb dX2_voidAt_13 rfl (lv_at hl 1 rfl) ?_
  obtain ⟨hi8, hf⟩ := ix_i hf
  refine va_iald hx hb hK hP 6 0 rfl rfl hi8 dX2_voidAt_14 ?_
  refine lv_topi (fun x9 ex9 => ?_)
  replace hf := nm_i hf ex9
  refine lv_isub hx hb dX2_voidAt_15 ?_
  refine lv_topi (fun x10 ex10 => ?_)
  replace hf := nm_i hf ex10
  obtain rfl := Option.some.inj hf
  subst hQ
  exact en_i hx hb hr hP hS hlocks dX2_voidAt_16
theorem iw_X2_findHanging_X1 : ∀ w ∈ u_ws RX1 TX1 9, w ∈ wsX2_findHanging := by decide +kernel
theorem iw_X2_findHanging_X2 : ∀ w ∈ u_ws RX2 TX2 8, w ∈ wsX2_findHanging := by decide +kernel
def lb_X2_findHanging_7 (fu : Nat) (u_st : TS) (rec : Int32 → TV → Option (TV)) (v86 : Int32) (u87 : TV) : Option (TV) :=
nm (S_sl u_st) fun (x90 : Int32) =>
if x90 ≤ v86 then (
some (u87)
)
else (
bd (f_X2_voidAt fu u87 u_st v86) fun (o92 : Int32) =>
nm (S_nu u_st 1) fun (x93 : Int32) =>
jn (fun (x95 : Int32) =>
ix v86 60 <|
nm (V_ha_ u87 (upd (V_ha u87) v86.toNatClampNeg (vp_nar .boolean x95))) fun (u113 : TV) =>
ix v86 60 <|
nm ((V_ha u113) v86.toNatClampNeg) fun (x115 : Int32) =>
jn (fun (u120 : TV) =>
nm (v86 + (1 : Int32)) fun (x123 : Int32) =>
rec x123 u120
) fun K65_122 =>
if x115 = 0 then (
K65_122 u113
)
else (
nm (V_hc u113) fun (x125 : Int32) =>
nm (x125 + (1 : Int32)) fun (x126 : Int32) =>
nm (V_hc_ u113 x126) fun (u127 : TV) =>
K65_122 u127
)
) fun K45_111 =>
if o92 ≤ x93 then (
K45_111 ((0 : Int32))
)
else (
K45_111 ((1 : Int32))
)
)

def lf_X2_findHanging_7 (fu : Nat) (u_st : TS) : Nat → Int32 → TV → Option (TV) := lq_2 (lb_X2_findHanging_7 fu u_st)
def f_X2_findHanging (fu : Nat) (u_sv : TV) (u_st : TS)  : Option (TV) :=
nm (V_hc_ u_sv ((0 : Int32))) fun (u45 : TV) =>
bd (lf_X2_findHanging_7 fu u_st fu ((0 : Int32)) u45) fun (z89 : TV) =>
some (z89)

abbrev rm_X2_findHanging : Room := { frames := 1, cells := 0, slots := 0, locals := 21 }
set_option maxHeartbeats 4000000 in
set_option maxRecDepth 100000 in
theorem c_X2_findHanging (l : Launch) (D : va_G) (cT : Nat → ClassId) (g : Nat → Nat) (b t : Nat) (fu : Nat) (u_sv : TV) (u_st : TS)  (o : TV) (hf : f_X2_findHanging fu u_sv u_st  = some o) (sz : Nat) : Met l yX2_findHanging wsX2_findHanging rm_X2_findHanging (va_Pc [.ref (g b)] (PRE D cT sz (List.flatten [wV cT g b t u_sv, wS cT g t u_st]))) (QV D (List.flatten [wV cT g b t o, wS cT g t u_st]) (va_A (List.flatten [wV cT g b t u_sv, wS cT g t u_st]) sz)) 0 0 (va_A (List.flatten [wV cT g b t u_sv, wS cT g t u_st]) sz) := by
  refine Met.ofW (cc := cX2_findHanging) (maxL := 2) (ret := none) (by decide) rfl ?_
  intro p e s m args below meth c s₁ B0 hml hv
  obtain ⟨hav, hsz, hP, hK, hD, hN, hZ⟩ := hv
  have hx := B0.exec
  have hb := B0.bytes
  have hr := B0.returns
  have hts := atoms_spec (ws := wsX2_findHanging) B0.pre
  have hown : s.vm.findClass RX2 = some m.cls := findClass_of_methodNamed B0.named
  have hlocks := B0.notSynchronized
  subst hsz
  have hD := hD.self (sz := s.heap.size)
  have hA : ∀ q : Nat, s.heap.size ≤ q → va_A (List.flatten [wV cT g b t u_sv, wS cT g t u_st]) s.heap.size q := fun q h => Or.inr h
  generalize va_A (List.flatten [wV cT g b t u_sv, wS cT g t u_st]) s.heap.size = A at hD hZ hA ⊢
  have hS : va_S A s.heap s.heap [] := va_S.rf
  have hl := lv_entry ([.ref (g b)]) (n := 2) (Nat.le_of_ble_eq_true rfl)
  rw [hav]
  rw [lg_entry_eq]
  generalize (lg_sl ([.ref (g b)]) ++ List.replicate (2 - (lg_sl ([.ref (g b)])).length) Slot.unset).toArray = ls at hl ⊢
  have hl : lv_has ls 2 [(0, .ref (g b))] := hl
  rw [← hav]
  generalize hQ : MQ below _ _ _ _ _ _ = Q
  show W p l e rm_X2_findHanging s m args below meth c s.heap [] 0 0 Q (F0 m 0 ls [])
  unfold f_X2_findHanging at hf
  refine lv_aload_n hx hb dX2_findHanging_0 rfl (lv_at hl 0 rfl) ?_
  refine lv_iconst (v := 0) hx hb dX2_findHanging_1 (by decide) ?_
  refine va_put (ci := 2) (v := .int ((0 : Int32))) (ty := .int) (C := RX2) (T := TX2) (N := 8) hx hb hts iw_X2_findHanging_X2 tyX2 tyX2_ok nmX2 hown hK hP (va_D_adr hD rfl) hS 0 rfl rfl 4 (by decide) (hts (.fieldLink RX2 22 "BallastTrack$Survey" "hangingCount" "I") (List.mem_of_getElem? (i := 1) rfl)) (fun _ h9 => h9) rfl (by decide +kernel) rfl rfl (Nat.le_of_ble_eq_true rfl) dX2_findHanging_2 (fun H locs hP _ hS => ?_)
  obtain ⟨u45, eu45⟩ : ∃ z : TV, z = V_hc_ u_sv ((0 : Int32)) := ⟨_, rfl⟩
  replace hf := nm_i hf eu45
  have hP : va_P D vwCl (List.flatten [wV cT g b t u45, wS cT g t u_st]) H := by rw [eu45]; exact hP
  refine lv_iconst (v := 0) hx hb dX2_findHanging_5 (by decide) ?_
  refine lv_istore_n (lv' := [(1, .int ((0 : Int32))), (0, .ref (g b))]) hx hb dX2_findHanging_6 rfl hl (by decide) rfl (fun ls hl => ?_)
  obtain ⟨z89, hz89, hf⟩ := bd_i hf
  have hL7 : ∀ (n : Nat) (v86 : Int32) (u87 : TV) (z88 : TV), lf_X2_findHanging_7 fu u_st n v86 u87 = some z88 → ∀ (H : Heap) (locs : List Loc) (ls : Array Slot), va_P D vwCl (List.flatten [wV cT g b t u87, wS cT g t u_st]) H → va_S A s.heap H locs → lv_has ls 2 [(0, .ref (g b)), (1, .int v86)] → (∀ (H : Heap) (locs : List Loc) (ls : Array Slot), va_P D vwCl (List.flatten [wV cT g b t z88, wS cT g t u_st]) H → va_S A s.heap H locs → lv_has ls 2 [] → W p l e rm_X2_findHanging s m args below meth c H locs 0 0 Q (F0 m 71 ls [])) → W p l e rm_X2_findHanging s m args below meth c H locs 0 0 Q (F0 m 7 ls []) := by
    refine lq_2_ind (F := lb_X2_findHanging_7 fu u_st) (fun rec ih v86 u87 z88 hf H locs ls hP hS hl kx => ?_)
    unfold lb_X2_findHanging_7 at hf
    refine lv_iload_n hx hb dX2_findHanging_7 rfl (lv_at hl 1 rfl) ?_
    refine lv_aload_n hx hb dX2_findHanging_8 rfl (lv_at hl 0 rfl) ?_
    refine va_get (ci := 2) (v := .ref (g t)) (C := RX2) (T := TX2) (N := 8) hx hb hts iw_X2_findHanging_X2 hown hK hP 0 rfl rfl 0 (by decide) (hts (.fieldLink RX2 35 "BallastTrack$Survey" "track" "LBallastTrack$State;") (List.mem_of_getElem? (i := 2) rfl)) (fun _ h9 => h9) rfl dX2_findHanging_9 ?_
    refine va_get (ci := 1) (v := .int (S_sl u_st)) (C := RX1) (T := TX1) (N := 9) hx hb hts iw_X2_findHanging_X1 hown hK hP 4 rfl rfl 0 (by decide) (hts (.fieldLink RX2 60 "BallastTrack$State" "sleepers" "I") (List.mem_of_getElem? (i := 3) rfl)) (fun _ h9 => h9) rfl dX2_findHanging_12 ?_
    refine lv_topi (fun x90 ex90 => ?_)
    replace hf := nm_i hf ex90
    refine lv_icmp_ge (tgt := 71) hx hb dX2_findHanging_15 (by decide) (fun c91 => ?_) (fun c91 => ?_)
    · replace hf := it_t hf c91
      obtain rfl := Option.some.inj hf
      exact kx _ _ _ hP hS (lv_sub hl [] rfl)
    · replace hf := it_f hf c91
      refine lv_aload_n hx hb dX2_findHanging_18 rfl (lv_at hl 0 rfl) ?_
      refine va_get (ci := 2) (v := .ref (g (b + 3))) (C := RX2) (T := TX2) (N := 8) hx hb hts iw_X2_findHanging_X2 hown hK hP 0 rfl rfl 3 (by decide) (hts (.fieldLink RX2 18 "BallastTrack$Survey" "hanging" "[Z") (List.mem_of_getElem? (i := 4) rfl)) (fun _ h9 => h9) rfl dX2_findHanging_19 ?_
      refine lv_iload_n hx hb dX2_findHanging_22 rfl (lv_at hl 1 rfl) ?_
      refine lv_aload_n hx hb dX2_findHanging_23 rfl (lv_at hl 0 rfl) ?_
      refine lv_iload_n hx hb dX2_findHanging_24 rfl (lv_at hl 1 rfl) ?_
      obtain ⟨o92, ho92, hf⟩ := bd_i hf
      refine cl_i [0, 1] [] [wV cT g b t u87, wS cT g t u_st] hP (va_D_adr hD rfl) hA hS (va_runV (As := [.int v86]) (rest := [.int v86, .ref (g (b + 3))]) ⟨hx, hb, hml, hown, hts⟩ (c_X2_voidAt l D cT g b t fu u87 u_st v86 o92 ho92 _) (cwV 1 hts gX2_findHanging_X2_voidAt rfl rfl rfl (by decide +kernel) ⟨Nat.le_of_ble_eq_true rfl, Nat.le_of_ble_eq_true rfl⟩) ⟨PRE_blind, va_recv hK hP (ci := 2) (q0 := 0) rfl rfl, PRE_ok [0, 1] (by decide) hP (va_D_adr hD rfl) hA hS hK hN hZ⟩ rfl rfl hl.1 rfl (lv_room (Nat.le_of_ble_eq_true rfl)) dX2_findHanging_25 ⟨Nat.le_of_ble_eq_true rfl, Nat.le_of_ble_eq_true rfl⟩) rfl 2 rfl (by decide) (by decide) (fun H locs hP hS => ?_)
      refine lv_aload_n hx hb dX2_findHanging_28 rfl (lv_at hl 0 rfl) ?_
      refine va_get (ci := 2) (v := .ref (g t)) (C := RX2) (T := TX2) (N := 8) hx hb hts iw_X2_findHanging_X2 hown hK hP 0 rfl rfl 0 (by decide) (hts (.fieldLink RX2 35 "BallastTrack$Survey" "track" "LBallastTrack$State;") (List.mem_of_getElem? (i := 2) rfl)) (fun _ h9 => h9) rfl dX2_findHanging_29 ?_
      refine va_get (ci := 1) (v := .ref (g (t + 1))) (C := RX1) (T := TX1) (N := 9) hx hb hts iw_X2_findHanging_X1 hown hK hP 4 rfl rfl 2 (by decide) (hts (.fieldLink RX2 57 "BallastTrack$State" "numbers" "[I") (List.mem_of_getElem? (i := 5) rfl)) (fun _ h9 => h9) rfl dX2_findHanging_32 ?_
      refine lv_iconst (v := 1) hx hb dX2_findHanging_35 (by decide) ?_
      refine va_iald hx hb hK hP 5 0 rfl rfl (by unfold vp_in; decide) dX2_findHanging_36 ?_
      refine lv_topi (fun x93 ex93 => ?_)
      replace hf := nm_i hf ex93
      obtain ⟨K45_111, eK45_111, hf⟩ := jn_i hf
      have hK45_111 : ∀ (x95 : Int32) (H : Heap) (locs : List Loc) (ls : Array Slot), K45_111 x95 = some z88 → va_P D vwCl (List.flatten [wV cT g b t u87, wS cT g t u_st]) H → va_S A s.heap H locs → lv_has ls 2 [(0, .ref (g b)), (1, .int v86)] → W p l e rm_X2_findHanging s m args below meth c H locs 0 0 Q (F0 m 45 ls [.int x95, .int v86, .ref (g (b + 3))]) := by
        intro x95 H locs ls hf hP hS hl
        rw [eK45_111] at hf
        obtain ⟨hi112, hf⟩ := ix_i hf
        refine va_zast hx hb hK hP (va_D_adr hD rfl) hS 3 1 rfl rfl hi112 dX2_findHanging_45 (fun H locs hP _ hS => ?_)
        obtain ⟨u113, eu113⟩ : ∃ z : TV, z = V_ha_ u87 (upd (V_ha u87) v86.toNatClampNeg (vp_nar .boolean x95)) := ⟨_, rfl⟩
        replace hf := nm_i hf eu113
        have hP : va_P D vwCl (List.flatten [wV cT g b t u113, wS cT g t u_st]) H := by rw [eu113]; exact hP
        refine lv_aload_n hx hb dX2_findHanging_46 rfl (lv_at hl 0 rfl) ?_
        refine va_get (ci := 2) (v := .ref (g (b + 3))) (C := RX2) (T := TX2) (N := 8) hx hb hts iw_X2_findHanging_X2 hown hK hP 0 rfl rfl 3 (by decide) (hts (.fieldLink RX2 18 "BallastTrack$Survey" "hanging" "[Z") (List.mem_of_getElem? (i := 4) rfl)) (fun _ h9 => h9) rfl dX2_findHanging_47 ?_
        refine lv_iload_n hx hb dX2_findHanging_50 rfl (lv_at hl 1 rfl) ?_
        obtain ⟨hi114, hf⟩ := ix_i hf
        refine va_zald hx hb hK hP 3 1 rfl rfl hi114 dX2_findHanging_51 ?_
        refine lv_topi (fun x115 ex115 => ?_)
        replace hf := nm_i hf ex115
        obtain ⟨K65_122, eK65_122, hf⟩ := jn_i hf
        have hK65_122 : ∀ (u120 : TV) (H : Heap) (locs : List Loc) (ls : Array Slot), K65_122 u120 = some z88 → va_P D vwCl (List.flatten [wV cT g b t u120, wS cT g t u_st]) H → va_S A s.heap H locs → lv_has ls 2 [(0, .ref (g b)), (1, .int v86)] → W p l e rm_X2_findHanging s m args below meth c H locs 0 0 Q (F0 m 65 ls []) := by
          intro u120 H locs ls hf hP hS hl
          rw [eK65_122] at hf
          obtain ⟨x123, ex123⟩ : ∃ z : Int32, z = v86 + (1 : Int32) := ⟨_, rfl⟩
          replace hf := nm_i hf ex123
          refine lv_iinc (v := x123) (lv' := [(1, .int x123), (0, .ref (g b))]) hx hb dX2_findHanging_65 hl (k := 1) rfl (by rw [ex123]; rfl) (by decide) rfl (fun ls hl => ?_)
          refine lv_goto (tgt := 7) hx hb dX2_findHanging_68 (by decide) ?_
          exact ih _ _ _ hf _ _ _ hP hS (lv_sub hl [1, 0] rfl) kx
        clear eK65_122
        refine lv_if_eq (tgt := 65) hx hb dX2_findHanging_52 (by decide) (fun c124 => ?_) (fun c124 => ?_)
        · replace hf := it_t hf c124
          exact hK65_122 _ _ _ _ hf hP hS (lv_sub hl [0, 1] rfl)
        · replace hf := it_f hf c124
          refine lv_aload_n hx hb dX2_findHanging_55 rfl (lv_at hl 0 rfl) ?_
          refine lv_dup hx hb dX2_findHanging_56 rfl ?_
          refine va_get (ci := 2) (v := .int (V_hc u113)) (C := RX2) (T := TX2) (N := 8) hx hb hts iw_X2_findHanging_X2 hown hK hP 0 rfl rfl 4 (by decide) (hts (.fieldLink RX2 22 "BallastTrack$Survey" "hangingCount" "I") (List.mem_of_getElem? (i := 1) rfl)) (fun _ h9 => h9) rfl dX2_findHanging_57 ?_
          refine lv_topi (fun x125 ex125 => ?_)
          replace hf := nm_i hf ex125
          refine lv_iconst (v := 1) hx hb dX2_findHanging_60 (by decide) ?_
          refine lv_iadd hx hb dX2_findHanging_61 ?_
          refine lv_topi (fun x126 ex126 => ?_)
          replace hf := nm_i hf ex126
          refine va_put (ci := 2) (v := .int x126) (ty := .int) (C := RX2) (T := TX2) (N := 8) hx hb hts iw_X2_findHanging_X2 tyX2 tyX2_ok nmX2 hown hK hP (va_D_adr hD rfl) hS 0 rfl rfl 4 (by decide) (hts (.fieldLink RX2 22 "BallastTrack$Survey" "hangingCount" "I") (List.mem_of_getElem? (i := 1) rfl)) (fun _ h9 => h9) rfl (by decide +kernel) rfl rfl (Nat.le_of_ble_eq_true rfl) dX2_findHanging_62 (fun H locs hP _ hS => ?_)
          obtain ⟨u127, eu127⟩ : ∃ z : TV, z = V_hc_ u113 x126 := ⟨_, rfl⟩
          replace hf := nm_i hf eu127
          have hP : va_P D vwCl (List.flatten [wV cT g b t u127, wS cT g t u_st]) H := by rw [eu127]; exact hP
          exact hK65_122 _ _ _ _ hf hP hS (lv_sub hl [0, 1] rfl)
      clear eK45_111
      refine lv_icmp_le (tgt := 44) hx hb dX2_findHanging_37 (by decide) (fun c128 => ?_) (fun c128 => ?_)
      · replace hf := it_t hf c128
        refine lv_iconst (v := 0) hx hb dX2_findHanging_44 (by decide) ?_
        exact hK45_111 _ _ _ _ hf hP hS (lv_sub hl [0, 1] rfl)
      · replace hf := it_f hf c128
        refine lv_iconst (v := 1) hx hb dX2_findHanging_40 (by decide) ?_
        refine lv_goto (tgt := 45) hx hb dX2_findHanging_41 (by decide) ?_
        exact hK45_111 _ _ _ _ hf hP hS (lv_sub hl [0, 1] rfl)
  refine hL7 fu _ _ _ hz89 _ _ _ hP hS (lv_sub hl [1, 0] rfl) (fun H locs ls hP hS hl => ?_)
  obtain rfl := Option.some.inj hf
  subst hQ
  exact en_v hx hb hr hP hS hlocks dX2_findHanging_71
theorem iw_X2_findHeights_X1 : ∀ w ∈ u_ws RX1 TX1 9, w ∈ wsX2_findHeights := by decide +kernel
theorem iw_X2_findHeights_X2 : ∀ w ∈ u_ws RX2 TX2 8, w ∈ wsX2_findHeights := by decide +kernel
def lb_X2_findHeights_16 (fu : Nat) (u_st : TS) (x37 : Int32) (rec : Int32 → Int32 → TV → Option (Int32 × TV)) (v51 : Int32) (v52 : Int32) (u53 : TV) : Option (Int32 × TV) :=
nm (S_sl u_st) fun (x56 : Int32) =>
if x56 ≤ v52 then (
some (v51, u53)
)
else (
nm (v51 - x37) fun (x58 : Int32) =>
ix v52 60 <|
nm ((S_lv u_st) v52.toNatClampNeg) fun (x60 : Int32) =>
nm (if x58 < x60 then x60 else x58) fun (x61 : Int32) =>
ix v52 60 <|
nm (V_he_ u53 (upd (V_he u53) v52.toNatClampNeg x61)) fun (u63 : TV) =>
nm (v52 + (1 : Int32)) fun (x64 : Int32) =>
rec x61 x64 u63
)

def lf_X2_findHeights_16 (fu : Nat) (u_st : TS) (x37 : Int32) : Nat → Int32 → Int32 → TV → Option (Int32 × TV) := lq_3 (lb_X2_findHeights_16 fu u_st x37)
def lb_X2_findHeights_66 (fu : Nat) (x37 : Int32) (rec : Int32 → Int32 → TV → Option (TV)) (v79 : Int32) (v80 : Int32) (u81 : TV) : Option (TV) :=
if v80 < 0 then (
some (u81)
)
else (
nm (v79 - x37) fun (x85 : Int32) =>
ix v80 60 <|
nm ((V_he u81) v80.toNatClampNeg) fun (x87 : Int32) =>
nm (if x85 < x87 then x87 else x85) fun (x88 : Int32) =>
ix v80 60 <|
nm (V_he_ u81 (upd (V_he u81) v80.toNatClampNeg x88)) fun (u90 : TV) =>
nm (v80 + (-1 : Int32)) fun (x91 : Int32) =>
rec x88 x91 u90
)

def lf_X2_findHeights_66 (fu : Nat) (x37 : Int32) : Nat → Int32 → Int32 → TV → Option (TV) := lq_3 (lb_X2_findHeights_66 fu x37)
def f_X2_findHeights (fu : Nat) (u_sv : TV) (u_st : TS)  : Option (TV) :=
nm (S_nu u_st 0) fun (x37 : Int32) =>
bd (lf_X2_findHeights_16 fu u_st x37 fu ((-9999 : Int32)) ((0 : Int32)) u_sv) fun (z55 : Int32 × TV) =>
nm (S_sl u_st) fun (x65 : Int32) =>
nm (x65 - (1 : Int32)) fun (x66 : Int32) =>
bd (lf_X2_findHeights_66 fu x37 fu z55.1 x66 z55.2) fun (z83 : TV) =>
some (z83)

abbrev rm_X2_findHeights : Room := { frames := 1, cells := 0, slots := 0, locals := 40 }
set_option maxHeartbeats 4000000 in
set_option maxRecDepth 100000 in
theorem c_X2_findHeights (l : Launch) (D : va_G) (cT : Nat → ClassId) (g : Nat → Nat) (b t : Nat) (fu : Nat) (u_sv : TV) (u_st : TS)  (o : TV) (hf : f_X2_findHeights fu u_sv u_st  = some o) (sz : Nat) : Met l yX2_findHeights wsX2_findHeights rm_X2_findHeights (va_Pc [.ref (g b)] (PRE D cT sz (List.flatten [wV cT g b t u_sv, wS cT g t u_st]))) (QV D (List.flatten [wV cT g b t o, wS cT g t u_st]) (va_A (List.flatten [wV cT g b t u_sv, wS cT g t u_st]) sz)) 0 0 (va_A (List.flatten [wV cT g b t u_sv, wS cT g t u_st]) sz) := by
  refine Met.ofW (cc := cX2_findHeights) (maxL := 4) (ret := none) (by decide) rfl ?_
  intro p e s m args below meth c s₁ B0 hml hv
  obtain ⟨hav, hsz, hP, hK, hD, hN, hZ⟩ := hv
  have hx := B0.exec
  have hb := B0.bytes
  have hr := B0.returns
  have hts := atoms_spec (ws := wsX2_findHeights) B0.pre
  have hown : s.vm.findClass RX2 = some m.cls := findClass_of_methodNamed B0.named
  have hlocks := B0.notSynchronized
  subst hsz
  have hD := hD.self (sz := s.heap.size)
  have hA : ∀ q : Nat, s.heap.size ≤ q → va_A (List.flatten [wV cT g b t u_sv, wS cT g t u_st]) s.heap.size q := fun q h => Or.inr h
  generalize va_A (List.flatten [wV cT g b t u_sv, wS cT g t u_st]) s.heap.size = A at hD hZ hA ⊢
  have hS : va_S A s.heap s.heap [] := va_S.rf
  have hl := lv_entry ([.ref (g b)]) (n := 4) (Nat.le_of_ble_eq_true rfl)
  rw [hav]
  rw [lg_entry_eq]
  generalize (lg_sl ([.ref (g b)]) ++ List.replicate (4 - (lg_sl ([.ref (g b)])).length) Slot.unset).toArray = ls at hl ⊢
  have hl : lv_has ls 4 [(0, .ref (g b))] := hl
  rw [← hav]
  generalize hQ : MQ below _ _ _ _ _ _ = Q
  show W p l e rm_X2_findHeights s m args below meth c s.heap [] 0 0 Q (F0 m 0 ls [])
  unfold f_X2_findHeights at hf
  refine lv_aload_n hx hb dX2_findHeights_0 rfl (lv_at hl 0 rfl) ?_
  refine va_get (ci := 2) (v := .ref (g t)) (C := RX2) (T := TX2) (N := 8) hx hb hts iw_X2_findHeights_X2 hown hK hP 0 rfl rfl 0 (by decide) (hts (.fieldLink RX2 35 "BallastTrack$Survey" "track" "LBallastTrack$State;") (List.mem_of_getElem? (i := 1) rfl)) (fun _ h9 => h9) rfl dX2_findHeights_1 ?_
  refine va_get (ci := 1) (v := .ref (g (t + 1))) (C := RX1) (T := TX1) (N := 9) hx hb hts iw_X2_findHeights_X1 hown hK hP 4 rfl rfl 2 (by decide) (hts (.fieldLink RX2 57 "BallastTrack$State" "numbers" "[I") (List.mem_of_getElem? (i := 2) rfl)) (fun _ h9 => h9) rfl dX2_findHeights_4 ?_
  refine lv_iconst (v := 0) hx hb dX2_findHeights_7 (by decide) ?_
  refine va_iald hx hb hK hP 5 0 rfl rfl (by unfold vp_in; decide) dX2_findHeights_8 ?_
  refine lv_topi (fun x37 ex37 => ?_)
  replace hf := nm_i hf ex37
  refine lv_istore_n (lv' := [(1, .int x37), (0, .ref (g b))]) hx hb dX2_findHeights_9 rfl hl (by decide) rfl (fun ls hl => ?_)
  refine lv_sipush (v := -9999) hx hb dX2_findHeights_10 (by decide) ?_
  refine lv_istore_n (lv' := [(2, .int ((-9999 : Int32))), (1, .int x37), (0, .ref (g b))]) hx hb dX2_findHeights_13 rfl hl (by decide) rfl (fun ls hl => ?_)
  refine lv_iconst (v := 0) hx hb dX2_findHeights_14 (by decide) ?_
  refine lv_istore_n (lv' := [(3, .int ((0 : Int32))), (2, .int ((-9999 : Int32))), (1, .int x37), (0, .ref (g b))]) hx hb dX2_findHeights_15 rfl hl (by decide) rfl (fun ls hl => ?_)
  obtain ⟨z55, hz55, hf⟩ := bd_i hf
  have hL16 : ∀ (n : Nat) (v51 : Int32) (v52 : Int32) (u53 : TV) (z54 : Int32 × TV), lf_X2_findHeights_16 fu u_st x37 n v51 v52 u53 = some z54 → ∀ (H : Heap) (locs : List Loc) (ls : Array Slot), va_P D vwCl (List.flatten [wV cT g b t u53, wS cT g t u_st]) H → va_S A s.heap H locs → lv_has ls 4 [(0, .ref (g b)), (1, .int x37), (2, .int v51), (3, .int v52)] → (∀ (H : Heap) (locs : List Loc) (ls : Array Slot), va_P D vwCl (List.flatten [wV cT g b t z54.2, wS cT g t u_st]) H → va_S A s.heap H locs → lv_has ls 4 [(0, .ref (g b)), (1, .int x37), (2, .int z54.1)] → W p l e rm_X2_findHeights s m args below meth c H locs 0 0 Q (F0 m 56 ls [])) → W p l e rm_X2_findHeights s m args below meth c H locs 0 0 Q (F0 m 16 ls []) := by
    refine lq_3_ind (F := lb_X2_findHeights_16 fu u_st x37) (fun rec ih v51 v52 u53 z54 hf H locs ls hP hS hl kx => ?_)
    unfold lb_X2_findHeights_16 at hf
    refine lv_iload_n hx hb dX2_findHeights_16 rfl (lv_at hl 3 rfl) ?_
    refine lv_aload_n hx hb dX2_findHeights_17 rfl (lv_at hl 0 rfl) ?_
    refine va_get (ci := 2) (v := .ref (g t)) (C := RX2) (T := TX2) (N := 8) hx hb hts iw_X2_findHeights_X2 hown hK hP 0 rfl rfl 0 (by decide) (hts (.fieldLink RX2 35 "BallastTrack$Survey" "track" "LBallastTrack$State;") (List.mem_of_getElem? (i := 1) rfl)) (fun _ h9 => h9) rfl dX2_findHeights_18 ?_
    refine va_get (ci := 1) (v := .int (S_sl u_st)) (C := RX1) (T := TX1) (N := 9) hx hb hts iw_X2_findHeights_X1 hown hK hP 4 rfl rfl 0 (by decide) (hts (.fieldLink RX2 60 "BallastTrack$State" "sleepers" "I") (List.mem_of_getElem? (i := 3) rfl)) (fun _ h9 => h9) rfl dX2_findHeights_21 ?_
    refine lv_topi (fun x56 ex56 => ?_)
    replace hf := nm_i hf ex56
    refine lv_icmp_ge (tgt := 56) hx hb dX2_findHeights_24 (by decide) (fun c57 => ?_) (fun c57 => ?_)
    · replace hf := it_t hf c57
      obtain rfl := Option.some.inj hf
      exact kx _ _ _ hP hS (lv_sub hl [0, 1, 2] rfl)
    · replace hf := it_f hf c57
      refine lv_iload_n hx hb dX2_findHeights_27 rfl (lv_at hl 2 rfl) ?_
      refine lv_iload_n hx hb dX2_findHeights_28 rfl (lv_at hl 1 rfl) ?_
      refine lv_isub hx hb dX2_findHeights_29 ?_
      refine lv_topi (fun x58 ex58 => ?_)
      replace hf := nm_i hf ex58
      refine lv_aload_n hx hb dX2_findHeights_30 rfl (lv_at hl 0 rfl) ?_
      refine va_get (ci := 2) (v := .ref (g t)) (C := RX2) (T := TX2) (N := 8) hx hb hts iw_X2_findHeights_X2 hown hK hP 0 rfl rfl 0 (by decide) (hts (.fieldLink RX2 35 "BallastTrack$Survey" "track" "LBallastTrack$State;") (List.mem_of_getElem? (i := 1) rfl)) (fun _ h9 => h9) rfl dX2_findHeights_31 ?_
      refine va_get (ci := 1) (v := .ref (g (t + 2))) (C := RX1) (T := TX1) (N := 9) hx hb hts iw_X2_findHeights_X1 hown hK hP 4 rfl rfl 3 (by decide) (hts (.fieldLink RX2 52 "BallastTrack$State" "levels" "[I") (List.mem_of_getElem? (i := 4) rfl)) (fun _ h9 => h9) rfl dX2_findHeights_34 ?_
      refine lv_iload_n hx hb dX2_findHeights_37 rfl (lv_at hl 3 rfl) ?_
      obtain ⟨hi59, hf⟩ := ix_i hf
      refine va_iald hx hb hK hP 6 0 rfl rfl hi59 dX2_findHeights_38 ?_
      refine lv_topi (fun x60 ex60 => ?_)
      replace hf := nm_i hf ex60
      refine va_mmax hx hb (by rw [hml]; exact hl.1.symm) hown (hts (.methodLink RX2 72 Lib.Math.max.name) (List.mem_of_getElem? (i := 5) rfl)) (hts (.static Lib.Math.max.name) (List.mem_of_getElem? (i := 6) rfl)) (hts (.initialized "java/lang/Math") (List.mem_of_getElem? (i := 7) rfl)) (hts (.code Lib.Math.max.name Lib.Math.max.code 2 (some .int)) (List.mem_of_getElem? (i := 8) rfl)) (Nat.le_of_ble_eq_true rfl) (Nat.le_of_ble_eq_true rfl) (Nat.le_of_ble_eq_true rfl) (Nat.le_of_ble_eq_true rfl) dX2_findHeights_39 ?_
      refine lv_topi (fun x61 ex61 => ?_)
      replace hf := nm_i hf ex61
      refine lv_istore_n (lv' := [(2, .int x61), (0, .ref (g b)), (1, .int x37), (3, .int v52)]) hx hb dX2_findHeights_42 rfl hl (by decide) rfl (fun ls hl => ?_)
      refine lv_aload_n hx hb dX2_findHeights_43 rfl (lv_at hl 1 rfl) ?_
      refine va_get (ci := 2) (v := .ref (g (b + 1))) (C := RX2) (T := TX2) (N := 8) hx hb hts iw_X2_findHeights_X2 hown hK hP 0 rfl rfl 1 (by decide) (hts (.fieldLink RX2 9 "BallastTrack$Survey" "heights" "[I") (List.mem_of_getElem? (i := 9) rfl)) (fun _ h9 => h9) rfl dX2_findHeights_44 ?_
      refine lv_iload_n hx hb dX2_findHeights_47 rfl (lv_at hl 3 rfl) ?_
      refine lv_iload_n hx hb dX2_findHeights_48 rfl (lv_at hl 0 rfl) ?_
      obtain ⟨hi62, hf⟩ := ix_i hf
      refine va_iast hx hb hK hP (va_D_adr hD rfl) hS 1 0 rfl rfl hi62 dX2_findHeights_49 (fun H locs hP _ hS => ?_)
      obtain ⟨u63, eu63⟩ : ∃ z : TV, z = V_he_ u53 (upd (V_he u53) v52.toNatClampNeg x61) := ⟨_, rfl⟩
      replace hf := nm_i hf eu63
      have hP : va_P D vwCl (List.flatten [wV cT g b t u63, wS cT g t u_st]) H := by rw [eu63]; exact hP
      obtain ⟨x64, ex64⟩ : ∃ z : Int32, z = v52 + (1 : Int32) := ⟨_, rfl⟩
      replace hf := nm_i hf ex64
      refine lv_iinc (v := x64) (lv' := [(3, .int x64), (2, .int x61), (0, .ref (g b)), (1, .int x37)]) hx hb dX2_findHeights_50 hl (k := 3) rfl (by rw [ex64]; rfl) (by decide) rfl (fun ls hl => ?_)
      refine lv_goto (tgt := 16) hx hb dX2_findHeights_53 (by decide) ?_
      exact ih _ _ _ _ hf _ _ _ hP hS (lv_sub hl [2, 3, 1, 0] rfl) kx
  refine hL16 fu _ _ _ _ hz55 _ _ _ hP hS (lv_sub hl [3, 2, 1, 0] rfl) (fun H locs ls hP hS hl => ?_)
  refine lv_aload_n hx hb dX2_findHeights_56 rfl (lv_at hl 0 rfl) ?_
  refine va_get (ci := 2) (v := .ref (g t)) (C := RX2) (T := TX2) (N := 8) hx hb hts iw_X2_findHeights_X2 hown hK hP 0 rfl rfl 0 (by decide) (hts (.fieldLink RX2 35 "BallastTrack$Survey" "track" "LBallastTrack$State;") (List.mem_of_getElem? (i := 1) rfl)) (fun _ h9 => h9) rfl dX2_findHeights_57 ?_
  refine va_get (ci := 1) (v := .int (S_sl u_st)) (C := RX1) (T := TX1) (N := 9) hx hb hts iw_X2_findHeights_X1 hown hK hP 4 rfl rfl 0 (by decide) (hts (.fieldLink RX2 60 "BallastTrack$State" "sleepers" "I") (List.mem_of_getElem? (i := 3) rfl)) (fun _ h9 => h9) rfl dX2_findHeights_60 ?_
  refine lv_topi (fun x65 ex65 => ?_)
  replace hf := nm_i hf ex65
  refine lv_iconst (v := 1) hx hb dX2_findHeights_63 (by decide) ?_
  refine lv_isub hx hb dX2_findHeights_64 ?_
  refine lv_topi (fun x66 ex66 => ?_)
  replace hf := nm_i hf ex66
  refine lv_istore_n (lv' := [(3, .int x66), (0, .ref (g b)), (1, .int x37), (2, .int z55.1)]) hx hb dX2_findHeights_65 rfl hl (by decide) rfl (fun ls hl => ?_)
  obtain ⟨z83, hz83, hf⟩ := bd_i hf
  have hL66 : ∀ (n : Nat) (v79 : Int32) (v80 : Int32) (u81 : TV) (z82 : TV), lf_X2_findHeights_66 fu x37 n v79 v80 u81 = some z82 → ∀ (H : Heap) (locs : List Loc) (ls : Array Slot), va_P D vwCl (List.flatten [wV cT g b t u81, wS cT g t u_st]) H → va_S A s.heap H locs → lv_has ls 4 [(0, .ref (g b)), (1, .int x37), (2, .int v79), (3, .int v80)] → (∀ (H : Heap) (locs : List Loc) (ls : Array Slot), va_P D vwCl (List.flatten [wV cT g b t z82, wS cT g t u_st]) H → va_S A s.heap H locs → lv_has ls 4 [] → W p l e rm_X2_findHeights s m args below meth c H locs 0 0 Q (F0 m 96 ls [])) → W p l e rm_X2_findHeights s m args below meth c H locs 0 0 Q (F0 m 66 ls []) := by
    refine lq_3_ind (F := lb_X2_findHeights_66 fu x37) (fun rec ih v79 v80 u81 z82 hf H locs ls hP hS hl kx => ?_)
    unfold lb_X2_findHeights_66 at hf
    refine lv_iload_n hx hb dX2_findHeights_66 rfl (lv_at hl 3 rfl) ?_
    refine lv_if_lt (tgt := 96) hx hb dX2_findHeights_67 (by decide) (fun c84 => ?_) (fun c84 => ?_)
    · replace hf := it_t hf c84
      obtain rfl := Option.some.inj hf
      exact kx _ _ _ hP hS (lv_sub hl [] rfl)
    · replace hf := it_f hf c84
      refine lv_iload_n hx hb dX2_findHeights_70 rfl (lv_at hl 2 rfl) ?_
      refine lv_iload_n hx hb dX2_findHeights_71 rfl (lv_at hl 1 rfl) ?_
      refine lv_isub hx hb dX2_findHeights_72 ?_
      refine lv_topi (fun x85 ex85 => ?_)
      replace hf := nm_i hf ex85
      refine lv_aload_n hx hb dX2_findHeights_73 rfl (lv_at hl 0 rfl) ?_
      refine va_get (ci := 2) (v := .ref (g (b + 1))) (C := RX2) (T := TX2) (N := 8) hx hb hts iw_X2_findHeights_X2 hown hK hP 0 rfl rfl 1 (by decide) (hts (.fieldLink RX2 9 "BallastTrack$Survey" "heights" "[I") (List.mem_of_getElem? (i := 9) rfl)) (fun _ h9 => h9) rfl dX2_findHeights_74 ?_
      refine lv_iload_n hx hb dX2_findHeights_77 rfl (lv_at hl 3 rfl) ?_
      obtain ⟨hi86, hf⟩ := ix_i hf
      refine va_iald hx hb hK hP 1 0 rfl rfl hi86 dX2_findHeights_78 ?_
      refine lv_topi (fun x87 ex87 => ?_)
      replace hf := nm_i hf ex87
      refine va_mmax hx hb (by rw [hml]; exact hl.1.symm) hown (hts (.methodLink RX2 72 Lib.Math.max.name) (List.mem_of_getElem? (i := 5) rfl)) (hts (.static Lib.Math.max.name) (List.mem_of_getElem? (i := 6) rfl)) (hts (.initialized "java/lang/Math") (List.mem_of_getElem? (i := 7) rfl)) (hts (.code Lib.Math.max.name Lib.Math.max.code 2 (some .int)) (List.mem_of_getElem? (i := 8) rfl)) (Nat.le_of_ble_eq_true rfl) (Nat.le_of_ble_eq_true rfl) (Nat.le_of_ble_eq_true rfl) (Nat.le_of_ble_eq_true rfl) dX2_findHeights_79 ?_
      refine lv_topi (fun x88 ex88 => ?_)
      replace hf := nm_i hf ex88
      refine lv_istore_n (lv' := [(2, .int x88), (0, .ref (g b)), (1, .int x37), (3, .int v80)]) hx hb dX2_findHeights_82 rfl hl (by decide) rfl (fun ls hl => ?_)
      refine lv_aload_n hx hb dX2_findHeights_83 rfl (lv_at hl 1 rfl) ?_
      refine va_get (ci := 2) (v := .ref (g (b + 1))) (C := RX2) (T := TX2) (N := 8) hx hb hts iw_X2_findHeights_X2 hown hK hP 0 rfl rfl 1 (by decide) (hts (.fieldLink RX2 9 "BallastTrack$Survey" "heights" "[I") (List.mem_of_getElem? (i := 9) rfl)) (fun _ h9 => h9) rfl dX2_findHeights_84 ?_
      refine lv_iload_n hx hb dX2_findHeights_87 rfl (lv_at hl 3 rfl) ?_
      refine lv_iload_n hx hb dX2_findHeights_88 rfl (lv_at hl 0 rfl) ?_
      obtain ⟨hi89, hf⟩ := ix_i hf
      refine va_iast hx hb hK hP (va_D_adr hD rfl) hS 1 0 rfl rfl hi89 dX2_findHeights_89 (fun H locs hP _ hS => ?_)
      obtain ⟨u90, eu90⟩ : ∃ z : TV, z = V_he_ u81 (upd (V_he u81) v80.toNatClampNeg x88) := ⟨_, rfl⟩
      replace hf := nm_i hf eu90
      have hP : va_P D vwCl (List.flatten [wV cT g b t u90, wS cT g t u_st]) H := by rw [eu90]; exact hP
      obtain ⟨x91, ex91⟩ : ∃ z : Int32, z = v80 + (-1 : Int32) := ⟨_, rfl⟩
      replace hf := nm_i hf ex91
      refine lv_iinc (v := x91) (lv' := [(3, .int x91), (2, .int x88), (0, .ref (g b)), (1, .int x37)]) hx hb dX2_findHeights_90 hl (k := 3) rfl (by rw [ex91]; rfl) (by decide) rfl (fun ls hl => ?_)
      refine lv_goto (tgt := 66) hx hb dX2_findHeights_93 (by decide) ?_
      exact ih _ _ _ _ hf _ _ _ hP hS (lv_sub hl [2, 3, 1, 0] rfl) kx
  refine hL66 fu _ _ _ _ hz83 _ _ _ hP hS (lv_sub hl [1, 2, 3, 0] rfl) (fun H locs ls hP hS hl => ?_)
  obtain rfl := Option.some.inj hf
  subst hQ
  exact en_v hx hb hr hP hS hlocks dX2_findHeights_96
theorem iw_X2_defectAt_X1 : ∀ w ∈ u_ws RX1 TX1 9, w ∈ wsX2_defectAt := by decide +kernel
theorem iw_X2_defectAt_X2 : ∀ w ∈ u_ws RX2 TX2 8, w ∈ wsX2_defectAt := by decide +kernel
def f_X2_defectAt (fu : Nat) (u_sv : TV) (u_st : TS) (p0 : Int32) : Option (Int32) :=
nm (S_nu u_st 2) fun (x18 : Int32) =>
nm (S_sl u_st) fun (x19 : Int32) =>
nm (x19 - x18) fun (x20 : Int32) =>
nm (x20 - (1 : Int32)) fun (x21 : Int32) =>
bd (f_X4_isWithin fu  p0 x18 x21) fun (o22 : Bool) =>
if ¬ bI o22 = 0 then (
ix p0 60 <|
nm ((V_he u_sv) p0.toNatClampNeg) fun (x25 : Int32) =>
nm ((2 : Int32) * x25) fun (x26 : Int32) =>
nm (p0 - x18) fun (x27 : Int32) =>
ix x27 60 <|
nm ((V_he u_sv) x27.toNatClampNeg) fun (x29 : Int32) =>
nm (x26 - x29) fun (x30 : Int32) =>
nm (p0 + x18) fun (x31 : Int32) =>
ix x31 60 <|
nm ((V_he u_sv) x31.toNatClampNeg) fun (x33 : Int32) =>
nm (x30 - x33) fun (x34 : Int32) =>
some (x34)
)
else (
some ((0 : Int32))
)

abbrev rm_X2_defectAt : Room := { frames := 1, cells := 0, slots := 0, locals := 22 }
set_option maxHeartbeats 4000000 in
set_option maxRecDepth 100000 in
theorem c_X2_defectAt (l : Launch) (D : va_G) (cT : Nat → ClassId) (g : Nat → Nat) (b t : Nat) (fu : Nat) (u_sv : TV) (u_st : TS) (p0 : Int32) (o : Int32) (hf : f_X2_defectAt fu u_sv u_st p0 = some o) (sz : Nat) : Met l yX2_defectAt wsX2_defectAt rm_X2_defectAt (va_Pc [.ref (g b), .int p0] (PRE D cT sz (List.flatten [wV cT g b t u_sv, wS cT g t u_st]))) (QI D o (List.flatten [wV cT g b t u_sv, wS cT g t u_st]) (va_A (List.flatten [wV cT g b t u_sv, wS cT g t u_st]) sz)) 0 0 (va_A (List.flatten [wV cT g b t u_sv, wS cT g t u_st]) sz) := by
  refine Met.ofW (cc := cX2_defectAt) (maxL := 3) (ret := (some .int)) (by decide) rfl ?_
  intro p e s m args below meth c s₁ B0 hml hv
  obtain ⟨hav, hsz, hP, hK, hD, hN, hZ⟩ := hv
  have hx := B0.exec
  have hb := B0.bytes
  have hr := B0.returns
  have hts := atoms_spec (ws := wsX2_defectAt) B0.pre
  have hown : s.vm.findClass RX2 = some m.cls := findClass_of_methodNamed B0.named
  have hlocks := B0.notSynchronized
  subst hsz
  have hD := hD.self (sz := s.heap.size)
  have hA : ∀ q : Nat, s.heap.size ≤ q → va_A (List.flatten [wV cT g b t u_sv, wS cT g t u_st]) s.heap.size q := fun q h => Or.inr h
  generalize va_A (List.flatten [wV cT g b t u_sv, wS cT g t u_st]) s.heap.size = A at hD hZ hA ⊢
  have hS : va_S A s.heap s.heap [] := va_S.rf
  have hl := lv_entry ([.ref (g b), .int p0]) (n := 3) (Nat.le_of_ble_eq_true rfl)
  rw [hav]
  rw [lg_entry_eq]
  generalize (lg_sl ([.ref (g b), .int p0]) ++ List.replicate (3 - (lg_sl ([.ref (g b), .int p0])).length) Slot.unset).toArray = ls at hl ⊢
  have hl : lv_has ls 3 [(0, .ref (g b)), (1, .int p0)] := hl
  rw [← hav]
  generalize hQ : MQ below _ _ _ _ _ _ = Q
  show W p l e rm_X2_defectAt s m args below meth c s.heap [] 0 0 Q (F0 m 0 ls [])
  unfold f_X2_defectAt at hf
  refine lv_aload_n hx hb dX2_defectAt_0 rfl (lv_at hl 0 rfl) ?_
  refine va_get (ci := 2) (v := .ref (g t)) (C := RX2) (T := TX2) (N := 8) hx hb hts iw_X2_defectAt_X2 hown hK hP 0 rfl rfl 0 (by decide) (hts (.fieldLink RX2 35 "BallastTrack$Survey" "track" "LBallastTrack$State;") (List.mem_of_getElem? (i := 1) rfl)) (fun _ h9 => h9) rfl dX2_defectAt_1 ?_
  refine va_get (ci := 1) (v := .ref (g (t + 1))) (C := RX1) (T := TX1) (N := 9) hx hb hts iw_X2_defectAt_X1 hown hK hP 4 rfl rfl 2 (by decide) (hts (.fieldLink RX2 57 "BallastTrack$State" "numbers" "[I") (List.mem_of_getElem? (i := 2) rfl)) (fun _ h9 => h9) rfl dX2_defectAt_4 ?_
  refine lv_iconst (v := 2) hx hb dX2_defectAt_7 (by decide) ?_
  refine va_iald hx hb hK hP 5 0 rfl rfl (by unfold vp_in; decide) dX2_defectAt_8 ?_
  refine lv_topi (fun x18 ex18 => ?_)
  replace hf := nm_i hf ex18
  refine lv_istore_n (lv' := [(2, .int x18), (0, .ref (g b)), (1, .int p0)]) hx hb dX2_defectAt_9 rfl hl (by decide) rfl (fun ls hl => ?_)
  refine lv_iload_n hx hb dX2_defectAt_10 rfl (lv_at hl 2 rfl) ?_
  refine lv_iload_n hx hb dX2_defectAt_11 rfl (lv_at hl 0 rfl) ?_
  refine lv_aload_n hx hb dX2_defectAt_12 rfl (lv_at hl 1 rfl) ?_
  refine va_get (ci := 2) (v := .ref (g t)) (C := RX2) (T := TX2) (N := 8) hx hb hts iw_X2_defectAt_X2 hown hK hP 0 rfl rfl 0 (by decide) (hts (.fieldLink RX2 35 "BallastTrack$Survey" "track" "LBallastTrack$State;") (List.mem_of_getElem? (i := 1) rfl)) (fun _ h9 => h9) rfl dX2_defectAt_13 ?_
  refine va_get (ci := 1) (v := .int (S_sl u_st)) (C := RX1) (T := TX1) (N := 9) hx hb hts iw_X2_defectAt_X1 hown hK hP 4 rfl rfl 0 (by decide) (hts (.fieldLink RX2 60 "BallastTrack$State" "sleepers" "I") (List.mem_of_getElem? (i := 3) rfl)) (fun _ h9 => h9) rfl dX2_defectAt_16 ?_
  refine lv_topi (fun x19 ex19 => ?_)
  replace hf := nm_i hf ex19
  refine lv_iload_n hx hb dX2_defectAt_19 rfl (lv_at hl 0 rfl) ?_
  refine lv_isub hx hb dX2_defectAt_20 ?_
  refine lv_topi (fun x20 ex20 => ?_)
  replace hf := nm_i hf ex20
  refine lv_iconst (v := 1) hx hb dX2_defectAt_21 (by decide) ?_
  refine lv_isub hx hb dX2_defectAt_22 ?_
  refine lv_topi (fun x21 ex21 => ?_)
  replace hf := nm_i hf ex21
  obtain ⟨o22, ho22, hf⟩ := bd_i hf
  refine cl_i [] [0, 1] [wV cT g b t u_sv, wS cT g t u_st] hP (va_D_adr hD rfl) hA hS (va_runSN (As := [.int p0, .int x18, .int x21]) (rest := []) ⟨hx, hb, hml, hown, hts⟩ (c_X4_isWithin l D cT g  fu  p0 x18 x21 o22 ho22 _) ⟨va_cnB 3 hts gX2_defectAt_X4_isWithin_n63 rfl rfl rfl hN.2.2.2.1 (hts (.initialized RX4) (List.mem_of_getElem? (i := 6) rfl)) (by decide +kernel) ⟨Nat.le_of_ble_eq_true rfl, Nat.le_of_ble_eq_true rfl⟩, (hts (.static yX4_isWithin) (List.mem_of_getElem? (i := 5) rfl)), trivial⟩ ⟨PRE_blind, PRE_ok [] (by decide) hP (va_D_adr hD rfl) hA hS hK hN hZ⟩ rfl rfl hl.1 rfl (lv_room (Nat.le_of_ble_eq_true rfl)) dX2_defectAt_23 ⟨Nat.le_of_ble_eq_true rfl, Nat.le_of_ble_eq_true rfl⟩) rfl 2 rfl (by decide) (by decide) (fun H locs hP hS => ?_)
  refine lv_if_ne (tgt := 31) hx hb dX2_defectAt_26 (by decide) (fun c23 => ?_) (fun c23 => ?_)
  · replace hf := it_t hf c23
    refine lv_iconst (v := 2) hx hb dX2_defectAt_31 (by decide) ?_
    refine lv_aload_n hx hb dX2_defectAt_32 rfl (lv_at hl 1 rfl) ?_
    refine va_get (ci := 2) (v := .ref (g (b + 1))) (C := RX2) (T := TX2) (N := 8) hx hb hts iw_X2_defectAt_X2 hown hK hP 0 rfl rfl 1 (by decide) (hts (.fieldLink RX2 9 "BallastTrack$Survey" "heights" "[I") (List.mem_of_getElem? (i := 4) rfl)) (fun _ h9 => h9) rfl dX2_defectAt_33 ?_
    refine lv_iload_n hx hb dX2_defectAt_36 rfl (lv_at hl 2 rfl) ?_
    obtain ⟨hi24, hf⟩ := ix_i hf
    refine va_iald hx hb hK hP 1 0 rfl rfl hi24 dX2_defectAt_37 ?_
    refine lv_topi (fun x25 ex25 => ?_)
    replace hf := nm_i hf ex25
    refine lv_imul hx hb dX2_defectAt_38 ?_
    refine lv_topi (fun x26 ex26 => ?_)
    replace hf := nm_i hf ex26
    refine lv_aload_n hx hb dX2_defectAt_39 rfl (lv_at hl 1 rfl) ?_
    refine va_get (ci := 2) (v := .ref (g (b + 1))) (C := RX2) (T := TX2) (N := 8) hx hb hts iw_X2_defectAt_X2 hown hK hP 0 rfl rfl 1 (by decide) (hts (.fieldLink RX2 9 "BallastTrack$Survey" "heights" "[I") (List.mem_of_getElem? (i := 4) rfl)) (fun _ h9 => h9) rfl dX2_defectAt_40 ?_
    refine lv_iload_n hx hb dX2_defectAt_43 rfl (lv_at hl 2 rfl) ?_
    refine lv_iload_n hx hb dX2_defectAt_44 rfl (lv_at hl 0 rfl) ?_
    refine lv_isub hx hb dX2_defectAt_45 ?_
    refine lv_topi (fun x27 ex27 => ?_)
    replace hf := nm_i hf ex27
    obtain ⟨hi28, hf⟩ := ix_i hf
    refine va_iald hx hb hK hP 1 0 rfl rfl hi28 dX2_defectAt_46 ?_
    refine lv_topi (fun x29 ex29 => ?_)
    replace hf := nm_i hf ex29
    refine lv_isub hx hb dX2_defectAt_47 ?_
    refine lv_topi (fun x30 ex30 => ?_)
    replace hf := nm_i hf ex30
    refine lv_aload_n hx hb dX2_defectAt_48 rfl (lv_at hl 1 rfl) ?_
    refine va_get (ci := 2) (v := .ref (g (b + 1))) (C := RX2) (T := TX2) (N := 8) hx hb hts iw_X2_defectAt_X2 hown hK hP 0 rfl rfl 1 (by decide) (hts (.fieldLink RX2 9 "BallastTrack$Survey" "heights" "[I") (List.mem_of_getElem? (i := 4) rfl)) (fun _ h9 => h9) rfl dX2_defectAt_49 ?_
    refine lv_iload_n hx hb dX2_defectAt_52 rfl (lv_at hl 2 rfl) ?_
    refine lv_iload_n hx hb dX2_defectAt_53 rfl (lv_at hl 0 rfl) ?_
    refine lv_iadd hx hb dX2_defectAt_54 ?_
    refine lv_topi (fun x31 ex31 => ?_)
    replace hf := nm_i hf ex31
    obtain ⟨hi32, hf⟩ := ix_i hf
    refine va_iald hx hb hK hP 1 0 rfl rfl hi32 dX2_defectAt_55 ?_
    refine lv_topi (fun x33 ex33 => ?_)
    replace hf := nm_i hf ex33
    refine lv_isub hx hb dX2_defectAt_56 ?_
    refine lv_topi (fun x34 ex34 => ?_)
    replace hf := nm_i hf ex34
    obtain rfl := Option.some.inj hf
    subst hQ
    exact en_i hx hb hr hP hS hlocks dX2_defectAt_57
  · replace hf := it_f hf (not_not_intro c23)
    refine lv_iconst (v := 0) hx hb dX2_defectAt_29 (by decide) ?_
    obtain rfl := Option.some.inj hf
    subst hQ
    exact en_i hx hb hr hP hS hlocks dX2_defectAt_30
theorem iw_X2_findWorst_X1 : ∀ w ∈ u_ws RX1 TX1 9, w ∈ wsX2_findWorst := by decide +kernel
theorem iw_X2_findWorst_X2 : ∀ w ∈ u_ws RX2 TX2 8, w ∈ wsX2_findWorst := by decide +kernel
def lb_X2_findWorst_12 (fu : Nat) (u_st : TS) (rec : Int32 → TV → Option (TV)) (v42 : Int32) (u43 : TV) : Option (TV) :=
nm (S_sl u_st) fun (x46 : Int32) =>
if x46 ≤ v42 then (
some (u43)
)
else (
bd (f_X2_defectAt fu u43 u_st v42) fun (o48 : Int32) =>
nm (if 0 ≤ o48 then o48 else 0 - o48) fun (x49 : Int32) =>
nm (V_ws u43) fun (x50 : Int32) =>
jn (fun (u54 : TV) =>
nm (v42 + (1 : Int32)) fun (x57 : Int32) =>
rec x57 u54
) fun K50_56 =>
if x49 ≤ x50 then (
K50_56 u43
)
else (
nm (V_wo_ u43 v42) fun (u59 : TV) =>
nm (V_ws_ u59 x49) fun (u60 : TV) =>
K50_56 u60
)
)

def lf_X2_findWorst_12 (fu : Nat) (u_st : TS) : Nat → Int32 → TV → Option (TV) := lq_2 (lb_X2_findWorst_12 fu u_st)
def f_X2_findWorst (fu : Nat) (u_sv : TV) (u_st : TS)  : Option (TV) :=
nm (V_wo_ u_sv ((0 : Int32))) fun (u23 : TV) =>
nm (V_ws_ u23 ((0 : Int32))) fun (u24 : TV) =>
bd (lf_X2_findWorst_12 fu u_st fu ((0 : Int32)) u24) fun (z45 : TV) =>
some (z45)

abbrev rm_X2_findWorst : Room := { frames := 2, cells := 0, slots := 0, locals := 44 }
set_option maxHeartbeats 4000000 in
set_option maxRecDepth 100000 in
theorem c_X2_findWorst (l : Launch) (D : va_G) (cT : Nat → ClassId) (g : Nat → Nat) (b t : Nat) (fu : Nat) (u_sv : TV) (u_st : TS)  (o : TV) (hf : f_X2_findWorst fu u_sv u_st  = some o) (sz : Nat) : Met l yX2_findWorst wsX2_findWorst rm_X2_findWorst (va_Pc [.ref (g b)] (PRE D cT sz (List.flatten [wV cT g b t u_sv, wS cT g t u_st]))) (QV D (List.flatten [wV cT g b t o, wS cT g t u_st]) (va_A (List.flatten [wV cT g b t u_sv, wS cT g t u_st]) sz)) 0 0 (va_A (List.flatten [wV cT g b t u_sv, wS cT g t u_st]) sz) := by
  refine Met.ofW (cc := cX2_findWorst) (maxL := 3) (ret := none) (by decide) rfl ?_
  intro p e s m args below meth c s₁ B0 hml hv
  obtain ⟨hav, hsz, hP, hK, hD, hN, hZ⟩ := hv
  have hx := B0.exec
  have hb := B0.bytes
  have hr := B0.returns
  have hts := atoms_spec (ws := wsX2_findWorst) B0.pre
  have hown : s.vm.findClass RX2 = some m.cls := findClass_of_methodNamed B0.named
  have hlocks := B0.notSynchronized
  subst hsz
  have hD := hD.self (sz := s.heap.size)
  have hA : ∀ q : Nat, s.heap.size ≤ q → va_A (List.flatten [wV cT g b t u_sv, wS cT g t u_st]) s.heap.size q := fun q h => Or.inr h
  generalize va_A (List.flatten [wV cT g b t u_sv, wS cT g t u_st]) s.heap.size = A at hD hZ hA ⊢
  have hS : va_S A s.heap s.heap [] := va_S.rf
  have hl := lv_entry ([.ref (g b)]) (n := 3) (Nat.le_of_ble_eq_true rfl)
  rw [hav]
  rw [lg_entry_eq]
  generalize (lg_sl ([.ref (g b)]) ++ List.replicate (3 - (lg_sl ([.ref (g b)])).length) Slot.unset).toArray = ls at hl ⊢
  have hl : lv_has ls 3 [(0, .ref (g b))] := hl
  rw [← hav]
  generalize hQ : MQ below _ _ _ _ _ _ = Q
  show W p l e rm_X2_findWorst s m args below meth c s.heap [] 0 0 Q (F0 m 0 ls [])
  unfold f_X2_findWorst at hf
  refine lv_aload_n hx hb dX2_findWorst_0 rfl (lv_at hl 0 rfl) ?_
  refine lv_iconst (v := 0) hx hb dX2_findWorst_1 (by decide) ?_
  refine va_put (ci := 2) (v := .int ((0 : Int32))) (ty := .int) (C := RX2) (T := TX2) (N := 8) hx hb hts iw_X2_findWorst_X2 tyX2 tyX2_ok nmX2 hown hK hP (va_D_adr hD rfl) hS 0 rfl rfl 5 (by decide) (hts (.fieldLink RX2 26 "BallastTrack$Survey" "worst" "I") (List.mem_of_getElem? (i := 1) rfl)) (fun _ h9 => h9) rfl (by decide +kernel) rfl rfl (Nat.le_of_ble_eq_true rfl) dX2_findWorst_2 (fun H locs hP _ hS => ?_)
  obtain ⟨u23, eu23⟩ : ∃ z : TV, z = V_wo_ u_sv ((0 : Int32)) := ⟨_, rfl⟩
  replace hf := nm_i hf eu23
  have hP : va_P D vwCl (List.flatten [wV cT g b t u23, wS cT g t u_st]) H := by rw [eu23]; exact hP
  refine lv_aload_n hx hb dX2_findWorst_5 rfl (lv_at hl 0 rfl) ?_
  refine lv_iconst (v := 0) hx hb dX2_findWorst_6 (by decide) ?_
  refine va_put (ci := 2) (v := .int ((0 : Int32))) (ty := .int) (C := RX2) (T := TX2) (N := 8) hx hb hts iw_X2_findWorst_X2 tyX2 tyX2_ok nmX2 hown hK hP (va_D_adr hD rfl) hS 0 rfl rfl 6 (by decide) (hts (.fieldLink RX2 29 "BallastTrack$Survey" "worstSize" "I") (List.mem_of_getElem? (i := 2) rfl)) (fun _ h9 => h9) rfl (by decide +kernel) rfl rfl (Nat.le_of_ble_eq_true rfl) dX2_findWorst_7 (fun H locs hP _ hS => ?_)
  obtain ⟨u24, eu24⟩ : ∃ z : TV, z = V_ws_ u23 ((0 : Int32)) := ⟨_, rfl⟩
  replace hf := nm_i hf eu24
  have hP : va_P D vwCl (List.flatten [wV cT g b t u24, wS cT g t u_st]) H := by rw [eu24]; exact hP
  refine lv_iconst (v := 0) hx hb dX2_findWorst_10 (by decide) ?_
  refine lv_istore_n (lv' := [(1, .int ((0 : Int32))), (0, .ref (g b))]) hx hb dX2_findWorst_11 rfl hl (by decide) rfl (fun ls hl => ?_)
  obtain ⟨z45, hz45, hf⟩ := bd_i hf
  have hL12 : ∀ (n : Nat) (v42 : Int32) (u43 : TV) (z44 : TV), lf_X2_findWorst_12 fu u_st n v42 u43 = some z44 → ∀ (H : Heap) (locs : List Loc) (ls : Array Slot), va_P D vwCl (List.flatten [wV cT g b t u43, wS cT g t u_st]) H → va_S A s.heap H locs → lv_has ls 3 [(0, .ref (g b)), (1, .int v42)] → (∀ (H : Heap) (locs : List Loc) (ls : Array Slot), va_P D vwCl (List.flatten [wV cT g b t z44, wS cT g t u_st]) H → va_S A s.heap H locs → lv_has ls 3 [] → W p l e rm_X2_findWorst s m args below meth c H locs 0 0 Q (F0 m 56 ls [])) → W p l e rm_X2_findWorst s m args below meth c H locs 0 0 Q (F0 m 12 ls []) := by
    refine lq_2_ind (F := lb_X2_findWorst_12 fu u_st) (fun rec ih v42 u43 z44 hf H locs ls hP hS hl kx => ?_)
    unfold lb_X2_findWorst_12 at hf
    refine lv_iload_n hx hb dX2_findWorst_12 rfl (lv_at hl 1 rfl) ?_
    refine lv_aload_n hx hb dX2_findWorst_13 rfl (lv_at hl 0 rfl) ?_
    refine va_get (ci := 2) (v := .ref (g t)) (C := RX2) (T := TX2) (N := 8) hx hb hts iw_X2_findWorst_X2 hown hK hP 0 rfl rfl 0 (by decide) (hts (.fieldLink RX2 35 "BallastTrack$Survey" "track" "LBallastTrack$State;") (List.mem_of_getElem? (i := 3) rfl)) (fun _ h9 => h9) rfl dX2_findWorst_14 ?_
    refine va_get (ci := 1) (v := .int (S_sl u_st)) (C := RX1) (T := TX1) (N := 9) hx hb hts iw_X2_findWorst_X1 hown hK hP 4 rfl rfl 0 (by decide) (hts (.fieldLink RX2 60 "BallastTrack$State" "sleepers" "I") (List.mem_of_getElem? (i := 4) rfl)) (fun _ h9 => h9) rfl dX2_findWorst_17 ?_
    refine lv_topi (fun x46 ex46 => ?_)
    replace hf := nm_i hf ex46
    refine lv_icmp_ge (tgt := 56) hx hb dX2_findWorst_20 (by decide) (fun c47 => ?_) (fun c47 => ?_)
    · replace hf := it_t hf c47
      obtain rfl := Option.some.inj hf
      exact kx _ _ _ hP hS (lv_sub hl [] rfl)
    · replace hf := it_f hf c47
      refine lv_aload_n hx hb dX2_findWorst_23 rfl (lv_at hl 0 rfl) ?_
      refine lv_iload_n hx hb dX2_findWorst_24 rfl (lv_at hl 1 rfl) ?_
      obtain ⟨o48, ho48, hf⟩ := bd_i hf
      refine cl_i [0, 1] [] [wV cT g b t u43, wS cT g t u_st] hP (va_D_adr hD rfl) hA hS (va_runV (As := [.int v42]) (rest := []) ⟨hx, hb, hml, hown, hts⟩ (c_X2_defectAt l D cT g b t fu u43 u_st v42 o48 ho48 _) (cwV 1 hts gX2_findWorst_X2_defectAt rfl rfl rfl (by decide +kernel) ⟨Nat.le_of_ble_eq_true rfl, Nat.le_of_ble_eq_true rfl⟩) ⟨PRE_blind, va_recv hK hP (ci := 2) (q0 := 0) rfl rfl, PRE_ok [0, 1] (by decide) hP (va_D_adr hD rfl) hA hS hK hN hZ⟩ rfl rfl hl.1 rfl (lv_room (Nat.le_of_ble_eq_true rfl)) dX2_findWorst_25 ⟨Nat.le_of_ble_eq_true rfl, Nat.le_of_ble_eq_true rfl⟩) rfl 2 rfl (by decide) (by decide) (fun H locs hP hS => ?_)
      refine va_mabs hx hb (by rw [hml]; exact hl.1.symm) hown (hts (.methodLink RX2 67 Lib.Math.abs.name) (List.mem_of_getElem? (i := 5) rfl)) (hts (.static Lib.Math.abs.name) (List.mem_of_getElem? (i := 6) rfl)) (hts (.initialized "java/lang/Math") (List.mem_of_getElem? (i := 7) rfl)) (hts (.code Lib.Math.abs.name Lib.Math.abs.code 1 (some .int)) (List.mem_of_getElem? (i := 8) rfl)) (Nat.le_of_ble_eq_true rfl) (Nat.le_of_ble_eq_true rfl) (Nat.le_of_ble_eq_true rfl) (Nat.le_of_ble_eq_true rfl) dX2_findWorst_28 ?_
      refine lv_topi (fun x49 ex49 => ?_)
      replace hf := nm_i hf ex49
      refine lv_istore_n (lv' := [(2, .int x49), (0, .ref (g b)), (1, .int v42)]) hx hb dX2_findWorst_31 rfl hl (by decide) rfl (fun ls hl => ?_)
      refine lv_iload_n hx hb dX2_findWorst_32 rfl (lv_at hl 0 rfl) ?_
      refine lv_aload_n hx hb dX2_findWorst_33 rfl (lv_at hl 1 rfl) ?_
      refine va_get (ci := 2) (v := .int (V_ws u43)) (C := RX2) (T := TX2) (N := 8) hx hb hts iw_X2_findWorst_X2 hown hK hP 0 rfl rfl 6 (by decide) (hts (.fieldLink RX2 29 "BallastTrack$Survey" "worstSize" "I") (List.mem_of_getElem? (i := 2) rfl)) (fun _ h9 => h9) rfl dX2_findWorst_34 ?_
      refine lv_topi (fun x50 ex50 => ?_)
      replace hf := nm_i hf ex50
      obtain ⟨K50_56, eK50_56, hf⟩ := jn_i hf
      have hK50_56 : ∀ (u54 : TV) (H : Heap) (locs : List Loc) (ls : Array Slot), K50_56 u54 = some z44 → va_P D vwCl (List.flatten [wV cT g b t u54, wS cT g t u_st]) H → va_S A s.heap H locs → lv_has ls 3 [(0, .ref (g b)), (1, .int v42)] → W p l e rm_X2_findWorst s m args below meth c H locs 0 0 Q (F0 m 50 ls []) := by
        intro u54 H locs ls hf hP hS hl
        rw [eK50_56] at hf
        obtain ⟨x57, ex57⟩ : ∃ z : Int32, z = v42 + (1 : Int32) := ⟨_, rfl⟩
        replace hf := nm_i hf ex57
        refine lv_iinc (v := x57) (lv' := [(1, .int x57), (0, .ref (g b))]) hx hb dX2_findWorst_50 hl (k := 1) rfl (by rw [ex57]; rfl) (by decide) rfl (fun ls hl => ?_)
        refine lv_goto (tgt := 12) hx hb dX2_findWorst_53 (by decide) ?_
        exact ih _ _ _ hf _ _ _ hP hS (lv_sub hl [1, 0] rfl) kx
      clear eK50_56
      refine lv_icmp_le (tgt := 50) hx hb dX2_findWorst_37 (by decide) (fun c58 => ?_) (fun c58 => ?_)
      · replace hf := it_t hf c58
        exact hK50_56 _ _ _ _ hf hP hS (lv_sub hl [1, 2] rfl)
      · replace hf := it_f hf c58
        refine lv_aload_n hx hb dX2_findWorst_40 rfl (lv_at hl 1 rfl) ?_
        refine lv_iload_n hx hb dX2_findWorst_41 rfl (lv_at hl 2 rfl) ?_
        refine va_put (ci := 2) (v := .int v42) (ty := .int) (C := RX2) (T := TX2) (N := 8) hx hb hts iw_X2_findWorst_X2 tyX2 tyX2_ok nmX2 hown hK hP (va_D_adr hD rfl) hS 0 rfl rfl 5 (by decide) (hts (.fieldLink RX2 26 "BallastTrack$Survey" "worst" "I") (List.mem_of_getElem? (i := 1) rfl)) (fun _ h9 => h9) rfl (by decide +kernel) rfl rfl (Nat.le_of_ble_eq_true rfl) dX2_findWorst_42 (fun H locs hP _ hS => ?_)
        obtain ⟨u59, eu59⟩ : ∃ z : TV, z = V_wo_ u43 v42 := ⟨_, rfl⟩
        replace hf := nm_i hf eu59
        have hP : va_P D vwCl (List.flatten [wV cT g b t u59, wS cT g t u_st]) H := by rw [eu59]; exact hP
        refine lv_aload_n hx hb dX2_findWorst_45 rfl (lv_at hl 1 rfl) ?_
        refine lv_iload_n hx hb dX2_findWorst_46 rfl (lv_at hl 0 rfl) ?_
        refine va_put (ci := 2) (v := .int x49) (ty := .int) (C := RX2) (T := TX2) (N := 8) hx hb hts iw_X2_findWorst_X2 tyX2 tyX2_ok nmX2 hown hK hP (va_D_adr hD rfl) hS 0 rfl rfl 6 (by decide) (hts (.fieldLink RX2 29 "BallastTrack$Survey" "worstSize" "I") (List.mem_of_getElem? (i := 2) rfl)) (fun _ h9 => h9) rfl (by decide +kernel) rfl rfl (Nat.le_of_ble_eq_true rfl) dX2_findWorst_47 (fun H locs hP _ hS => ?_)
        obtain ⟨u60, eu60⟩ : ∃ z : TV, z = V_ws_ u59 x49 := ⟨_, rfl⟩
        replace hf := nm_i hf eu60
        have hP : va_P D vwCl (List.flatten [wV cT g b t u60, wS cT g t u_st]) H := by rw [eu60]; exact hP
        exact hK50_56 _ _ _ _ hf hP hS (lv_sub hl [1, 2] rfl)
  refine hL12 fu _ _ _ hz45 _ _ _ hP hS (lv_sub hl [1, 0] rfl) (fun H locs ls hP hS hl => ?_)
  obtain rfl := Option.some.inj hf
  subst hQ
  exact en_v hx hb hr hP hS hlocks dX2_findWorst_56
theorem iw_X2_orderOf_X1 : ∀ w ∈ u_ws RX1 TX1 9, w ∈ wsX2_orderOf := by decide +kernel
theorem iw_X2_orderOf_X2 : ∀ w ∈ u_ws RX2 TX2 8, w ∈ wsX2_orderOf := by decide +kernel
def f_X2_orderOf (fu : Nat) (u_sv : TV) (u_st : TS) (p0 : Int32) : Option (Int32) :=
nm (S_nu u_st 3) fun (x7 : Int32) =>
if x7 < p0 then (
nm (S_nu u_st 4) fun (x9 : Int32) =>
if x9 < p0 then (
nm (S_nu u_st 5) fun (x11 : Int32) =>
if x11 < p0 then (
some ((3 : Int32))
)
else (
some ((2 : Int32))
)
)
else (
some ((1 : Int32))
)
)
else (
some ((0 : Int32))
)

abbrev rm_X2_orderOf : Room := { frames := 0, cells := 0, slots := 0, locals := 0 }
set_option maxHeartbeats 4000000 in
set_option maxRecDepth 100000 in
theorem c_X2_orderOf (l : Launch) (D : va_G) (cT : Nat → ClassId) (g : Nat → Nat) (b t : Nat) (fu : Nat) (u_sv : TV) (u_st : TS) (p0 : Int32) (o : Int32) (hf : f_X2_orderOf fu u_sv u_st p0 = some o) (sz : Nat) : Met l yX2_orderOf wsX2_orderOf rm_X2_orderOf (va_Pc [.ref (g b), .int p0] (PRE D cT sz (List.flatten [wV cT g b t u_sv, wS cT g t u_st]))) (QI D o (List.flatten [wV cT g b t u_sv, wS cT g t u_st]) (va_A (List.flatten [wV cT g b t u_sv, wS cT g t u_st]) sz)) 0 0 (va_A (List.flatten [wV cT g b t u_sv, wS cT g t u_st]) sz) := by
  refine Met.ofW (cc := cX2_orderOf) (maxL := 2) (ret := (some .int)) (by decide) rfl ?_
  intro p e s m args below meth c s₁ B0 hml hv
  obtain ⟨hav, hsz, hP, hK, hD, hN, hZ⟩ := hv
  have hx := B0.exec
  have hb := B0.bytes
  have hr := B0.returns
  have hts := atoms_spec (ws := wsX2_orderOf) B0.pre
  have hown : s.vm.findClass RX2 = some m.cls := findClass_of_methodNamed B0.named
  have hlocks := B0.notSynchronized
  subst hsz
  have hD := hD.self (sz := s.heap.size)
  have hA : ∀ q : Nat, s.heap.size ≤ q → va_A (List.flatten [wV cT g b t u_sv, wS cT g t u_st]) s.heap.size q := fun q h => Or.inr h
  generalize va_A (List.flatten [wV cT g b t u_sv, wS cT g t u_st]) s.heap.size = A at hD hZ hA ⊢
  have hS : va_S A s.heap s.heap [] := va_S.rf
  have hl := lv_entry ([.ref (g b), .int p0]) (n := 2) (Nat.le_of_ble_eq_true rfl)
  rw [hav]
  rw [lg_entry_eq]
  generalize (lg_sl ([.ref (g b), .int p0]) ++ List.replicate (2 - (lg_sl ([.ref (g b), .int p0])).length) Slot.unset).toArray = ls at hl ⊢
  have hl : lv_has ls 2 [(0, .ref (g b)), (1, .int p0)] := hl
  rw [← hav]
  generalize hQ : MQ below _ _ _ _ _ _ = Q
  show W p l e rm_X2_orderOf s m args below meth c s.heap [] 0 0 Q (F0 m 0 ls [])
  unfold f_X2_orderOf at hf
  refine lv_iload_n hx hb dX2_orderOf_0 rfl (lv_at hl 1 rfl) ?_
  refine lv_aload_n hx hb dX2_orderOf_1 rfl (lv_at hl 0 rfl) ?_
  refine va_get (ci := 2) (v := .ref (g t)) (C := RX2) (T := TX2) (N := 8) hx hb hts iw_X2_orderOf_X2 hown hK hP 0 rfl rfl 0 (by decide) (hts (.fieldLink RX2 35 "BallastTrack$Survey" "track" "LBallastTrack$State;") (List.mem_of_getElem? (i := 1) rfl)) (fun _ h9 => h9) rfl dX2_orderOf_2 ?_
  refine va_get (ci := 1) (v := .ref (g (t + 1))) (C := RX1) (T := TX1) (N := 9) hx hb hts iw_X2_orderOf_X1 hown hK hP 4 rfl rfl 2 (by decide) (hts (.fieldLink RX2 57 "BallastTrack$State" "numbers" "[I") (List.mem_of_getElem? (i := 2) rfl)) (fun _ h9 => h9) rfl dX2_orderOf_5 ?_
  refine lv_iconst (v := 3) hx hb dX2_orderOf_8 (by decide) ?_
  refine va_iald hx hb hK hP 5 0 rfl rfl (by unfold vp_in; decide) dX2_orderOf_9 ?_
  refine lv_topi (fun x7 ex7 => ?_)
  replace hf := nm_i hf ex7
  refine lv_icmp_gt (tgt := 15) hx hb dX2_orderOf_10 (by decide) (fun c8 => ?_) (fun c8 => ?_)
  · replace hf := it_t hf c8
    refine lv_iload_n hx hb dX2_orderOf_15 rfl (lv_at hl 1 rfl) ?_
    refine lv_aload_n hx hb dX2_orderOf_16 rfl (lv_at hl 0 rfl) ?_
    refine va_get (ci := 2) (v := .ref (g t)) (C := RX2) (T := TX2) (N := 8) hx hb hts iw_X2_orderOf_X2 hown hK hP 0 rfl rfl 0 (by decide) (hts (.fieldLink RX2 35 "BallastTrack$Survey" "track" "LBallastTrack$State;") (List.mem_of_getElem? (i := 1) rfl)) (fun _ h9 => h9) rfl dX2_orderOf_17 ?_
    refine va_get (ci := 1) (v := .ref (g (t + 1))) (C := RX1) (T := TX1) (N := 9) hx hb hts iw_X2_orderOf_X1 hown hK hP 4 rfl rfl 2 (by decide) (hts (.fieldLink RX2 57 "BallastTrack$State" "numbers" "[I") (List.mem_of_getElem? (i := 2) rfl)) (fun _ h9 => h9) rfl dX2_orderOf_20 ?_
    refine lv_iconst (v := 4) hx hb dX2_orderOf_23 (by decide) ?_
    refine va_iald hx hb hK hP 5 0 rfl rfl (by unfold vp_in; decide) dX2_orderOf_24 ?_
    refine lv_topi (fun x9 ex9 => ?_)
    replace hf := nm_i hf ex9
    refine lv_icmp_gt (tgt := 30) hx hb dX2_orderOf_25 (by decide) (fun c10 => ?_) (fun c10 => ?_)
    · replace hf := it_t hf c10
      refine lv_iload_n hx hb dX2_orderOf_30 rfl (lv_at hl 1 rfl) ?_
      refine lv_aload_n hx hb dX2_orderOf_31 rfl (lv_at hl 0 rfl) ?_
      refine va_get (ci := 2) (v := .ref (g t)) (C := RX2) (T := TX2) (N := 8) hx hb hts iw_X2_orderOf_X2 hown hK hP 0 rfl rfl 0 (by decide) (hts (.fieldLink RX2 35 "BallastTrack$Survey" "track" "LBallastTrack$State;") (List.mem_of_getElem? (i := 1) rfl)) (fun _ h9 => h9) rfl dX2_orderOf_32 ?_
      refine va_get (ci := 1) (v := .ref (g (t + 1))) (C := RX1) (T := TX1) (N := 9) hx hb hts iw_X2_orderOf_X1 hown hK hP 4 rfl rfl 2 (by decide) (hts (.fieldLink RX2 57 "BallastTrack$State" "numbers" "[I") (List.mem_of_getElem? (i := 2) rfl)) (fun _ h9 => h9) rfl dX2_orderOf_35 ?_
      refine lv_iconst (v := 5) hx hb dX2_orderOf_38 (by decide) ?_
      refine va_iald hx hb hK hP 5 0 rfl rfl (by unfold vp_in; decide) dX2_orderOf_39 ?_
      refine lv_topi (fun x11 ex11 => ?_)
      replace hf := nm_i hf ex11
      refine lv_icmp_gt (tgt := 47) hx hb dX2_orderOf_40 (by decide) (fun c12 => ?_) (fun c12 => ?_)
      · replace hf := it_t hf c12
        refine lv_iconst (v := 3) hx hb dX2_orderOf_47 (by decide) ?_
        obtain rfl := Option.some.inj hf
        subst hQ
        exact en_i hx hb hr hP hS hlocks dX2_orderOf_48
      · replace hf := it_f hf c12
        refine lv_iconst (v := 2) hx hb dX2_orderOf_43 (by decide) ?_
        refine lv_goto (tgt := 48) hx hb dX2_orderOf_44 (by decide) ?_
        obtain rfl := Option.some.inj hf
        subst hQ
        exact en_i hx hb hr hP hS hlocks dX2_orderOf_48
    · replace hf := it_f hf c10
      refine lv_iconst (v := 1) hx hb dX2_orderOf_28 (by decide) ?_
      obtain rfl := Option.some.inj hf
      subst hQ
      exact en_i hx hb hr hP hS hlocks dX2_orderOf_29
  · replace hf := it_f hf c8
    refine lv_iconst (v := 0) hx hb dX2_orderOf_13 (by decide) ?_
    obtain rfl := Option.some.inj hf
    subst hQ
    exact en_i hx hb hr hP hS hlocks dX2_orderOf_14
theorem iw_X2_look_X2 : ∀ w ∈ u_ws RX2 TX2 8, w ∈ wsX2_look := by decide +kernel
def f_X2_look (fu : Nat) (u_sv : TV) (u_st : TS)  : Option (TV) :=
bd (f_X2_findHeights fu u_sv u_st ) fun (o7 : TV) =>
bd (f_X2_findHanging fu o7 u_st ) fun (o8 : TV) =>
bd (f_X2_findWorst fu o8 u_st ) fun (o9 : TV) =>
nm (V_ws o9) fun (x10 : Int32) =>
bd (f_X2_orderOf fu o9 u_st x10) fun (o11 : Int32) =>
nm (V_od_ o9 o11) fun (u12 : TV) =>
some (u12)

abbrev rm_X2_look : Room := { frames := 3, cells := 0, slots := 0, locals := 66 }
set_option maxHeartbeats 4000000 in
set_option maxRecDepth 100000 in
theorem c_X2_look (l : Launch) (D : va_G) (cT : Nat → ClassId) (g : Nat → Nat) (b t : Nat) (fu : Nat) (u_sv : TV) (u_st : TS)  (o : TV) (hf : f_X2_look fu u_sv u_st  = some o) (sz : Nat) : Met l yX2_look wsX2_look rm_X2_look (va_Pc [.ref (g b)] (PRE D cT sz (List.flatten [wV cT g b t u_sv, wS cT g t u_st]))) (QV D (List.flatten [wV cT g b t o, wS cT g t u_st]) (va_A (List.flatten [wV cT g b t u_sv, wS cT g t u_st]) sz)) 0 0 (va_A (List.flatten [wV cT g b t u_sv, wS cT g t u_st]) sz) := by
  refine Met.ofW (cc := cX2_look) (maxL := 1) (ret := none) (by decide) rfl ?_
  intro p e s m args below meth c s₁ B0 hml hv
  obtain ⟨hav, hsz, hP, hK, hD, hN, hZ⟩ := hv
  have hx := B0.exec
  have hb := B0.bytes
  have hr := B0.returns
  have hts := atoms_spec (ws := wsX2_look) B0.pre
  have hown : s.vm.findClass RX2 = some m.cls := findClass_of_methodNamed B0.named
  have hlocks := B0.notSynchronized
  subst hsz
  have hD := hD.self (sz := s.heap.size)
  have hA : ∀ q : Nat, s.heap.size ≤ q → va_A (List.flatten [wV cT g b t u_sv, wS cT g t u_st]) s.heap.size q := fun q h => Or.inr h
  generalize va_A (List.flatten [wV cT g b t u_sv, wS cT g t u_st]) s.heap.size = A at hD hZ hA ⊢
  have hS : va_S A s.heap s.heap [] := va_S.rf
  have hl := lv_entry ([.ref (g b)]) (n := 1) (Nat.le_of_ble_eq_true rfl)
  rw [hav]
  rw [lg_entry_eq]
  generalize (lg_sl ([.ref (g b)]) ++ List.replicate (1 - (lg_sl ([.ref (g b)])).length) Slot.unset).toArray = ls at hl ⊢
  have hl : lv_has ls 1 [(0, .ref (g b))] := hl
  rw [← hav]
  generalize hQ : MQ below _ _ _ _ _ _ = Q
  show W p l e rm_X2_look s m args below meth c s.heap [] 0 0 Q (F0 m 0 ls [])
  unfold f_X2_look at hf
  refine lv_aload_n hx hb dX2_look_0 rfl (lv_at hl 0 rfl) ?_
  obtain ⟨o7, ho7, hf⟩ := bd_i hf
  refine cl_v [0, 1] [] [wV cT g b t o7, wS cT g t u_st] hP (va_D_adr hD rfl) hA hS (va_runV (As := []) (rest := []) ⟨hx, hb, hml, hown, hts⟩ (c_X2_findHeights l D cT g b t fu u_sv u_st  o7 ho7 _) (cwV 0 hts gX2_look_X2_findHeights rfl rfl rfl (by decide +kernel) ⟨Nat.le_of_ble_eq_true rfl, Nat.le_of_ble_eq_true rfl⟩) ⟨PRE_blind, va_recv hK hP (ci := 2) (q0 := 0) rfl rfl, PRE_ok [0, 1] (by decide) hP (va_D_adr hD rfl) hA hS hK hN hZ⟩ rfl rfl hl.1 rfl (lv_room (Nat.le_of_ble_eq_true rfl)) dX2_look_1 ⟨Nat.le_of_ble_eq_true rfl, Nat.le_of_ble_eq_true rfl⟩) rfl 2 rfl (by decide) (by decide) (fun H locs hP hS => ?_)
  refine lv_aload_n hx hb dX2_look_4 rfl (lv_at hl 0 rfl) ?_
  obtain ⟨o8, ho8, hf⟩ := bd_i hf
  refine cl_v [0, 1] [] [wV cT g b t o8, wS cT g t u_st] hP (va_D_adr hD rfl) hA hS (va_runV (As := []) (rest := []) ⟨hx, hb, hml, hown, hts⟩ (c_X2_findHanging l D cT g b t fu o7 u_st  o8 ho8 _) (cwV 0 hts gX2_look_X2_findHanging rfl rfl rfl (by decide +kernel) ⟨Nat.le_of_ble_eq_true rfl, Nat.le_of_ble_eq_true rfl⟩) ⟨PRE_blind, va_recv hK hP (ci := 2) (q0 := 0) rfl rfl, PRE_ok [0, 1] (by decide) hP (va_D_adr hD rfl) hA hS hK hN hZ⟩ rfl rfl hl.1 rfl (lv_room (Nat.le_of_ble_eq_true rfl)) dX2_look_5 ⟨Nat.le_of_ble_eq_true rfl, Nat.le_of_ble_eq_true rfl⟩) rfl 2 rfl (by decide) (by decide) (fun H locs hP hS => ?_)
  refine lv_aload_n hx hb dX2_look_8 rfl (lv_at hl 0 rfl) ?_
  obtain ⟨o9, ho9, hf⟩ := bd_i hf
  refine cl_v [0, 1] [] [wV cT g b t o9, wS cT g t u_st] hP (va_D_adr hD rfl) hA hS (va_runV (As := []) (rest := []) ⟨hx, hb, hml, hown, hts⟩ (c_X2_findWorst l D cT g b t fu o8 u_st  o9 ho9 _) (cwV 0 hts gX2_look_X2_findWorst rfl rfl rfl (by decide +kernel) ⟨Nat.le_of_ble_eq_true rfl, Nat.le_of_ble_eq_true rfl⟩) ⟨PRE_blind, va_recv hK hP (ci := 2) (q0 := 0) rfl rfl, PRE_ok [0, 1] (by decide) hP (va_D_adr hD rfl) hA hS hK hN hZ⟩ rfl rfl hl.1 rfl (lv_room (Nat.le_of_ble_eq_true rfl)) dX2_look_9 ⟨Nat.le_of_ble_eq_true rfl, Nat.le_of_ble_eq_true rfl⟩) rfl 2 rfl (by decide) (by decide) (fun H locs hP hS => ?_)
  refine lv_aload_n hx hb dX2_look_12 rfl (lv_at hl 0 rfl) ?_
  refine lv_aload_n hx hb dX2_look_13 rfl (lv_at hl 0 rfl) ?_
  refine lv_aload_n hx hb dX2_look_14 rfl (lv_at hl 0 rfl) ?_
  refine va_get (ci := 2) (v := .int (V_ws o9)) (C := RX2) (T := TX2) (N := 8) hx hb hts iw_X2_look_X2 hown hK hP 0 rfl rfl 6 (by decide) (hts (.fieldLink RX2 29 "BallastTrack$Survey" "worstSize" "I") (List.mem_of_getElem? (i := 1) rfl)) (fun _ h9 => h9) rfl dX2_look_15 ?_
  refine lv_topi (fun x10 ex10 => ?_)
  replace hf := nm_i hf ex10
  obtain ⟨o11, ho11, hf⟩ := bd_i hf
  refine cl_i [0, 1] [] [wV cT g b t o9, wS cT g t u_st] hP (va_D_adr hD rfl) hA hS (va_runV (As := [.int x10]) (rest := [.ref (g b)]) ⟨hx, hb, hml, hown, hts⟩ (c_X2_orderOf l D cT g b t fu o9 u_st x10 o11 ho11 _) (cwV 1 hts gX2_look_X2_orderOf rfl rfl rfl (by decide +kernel) ⟨Nat.le_of_ble_eq_true rfl, Nat.le_of_ble_eq_true rfl⟩) ⟨PRE_blind, va_recv hK hP (ci := 2) (q0 := 0) rfl rfl, PRE_ok [0, 1] (by decide) hP (va_D_adr hD rfl) hA hS hK hN hZ⟩ rfl rfl hl.1 rfl (lv_room (Nat.le_of_ble_eq_true rfl)) dX2_look_18 ⟨Nat.le_of_ble_eq_true rfl, Nat.le_of_ble_eq_true rfl⟩) rfl 2 rfl (by decide) (by decide) (fun H locs hP hS => ?_)
  refine va_put (ci := 2) (v := .int o11) (ty := .int) (C := RX2) (T := TX2) (N := 8) hx hb hts iw_X2_look_X2 tyX2 tyX2_ok nmX2 hown hK hP (va_D_adr hD rfl) hS 0 rfl rfl 7 (by decide) (hts (.fieldLink RX2 32 "BallastTrack$Survey" "order" "I") (List.mem_of_getElem? (i := 2) rfl)) (fun _ h9 => h9) rfl (by decide +kernel) rfl rfl (Nat.le_of_ble_eq_true rfl) dX2_look_21 (fun H locs hP _ hS => ?_)
  obtain ⟨u12, eu12⟩ : ∃ z : TV, z = V_od_ o9 o11 := ⟨_, rfl⟩
  replace hf := nm_i hf eu12
  have hP : va_P D vwCl (List.flatten [wV cT g b t u12, wS cT g t u_st]) H := by rw [eu12]; exact hP
  obtain rfl := Option.some.inj hf
  subst hQ
  exact en_v hx hb hr hP hS hlocks dX2_look_24
theorem iw_X2_greatestOfAll_X1 : ∀ w ∈ u_ws RX1 TX1 9, w ∈ wsX2_greatestOfAll := by decide +kernel
theorem iw_X2_greatestOfAll_X2 : ∀ w ∈ u_ws RX2 TX2 8, w ∈ wsX2_greatestOfAll := by decide +kernel
def lb_X2_greatestOfAll_12 (fu : Nat) (u_st : TS) (p0 : Int32) (rec : Int32 → Int32 → Option (Int32)) (v38 : Int32) (v39 : Int32) : Option (Int32) :=
nm (S_sl u_st) fun (x42 : Int32) =>
if x42 ≤ v39 then (
some (v38)
)
else (
ix v39 60 <|
nm ((S_lv u_st) v39.toNatClampNeg) fun (x45 : Int32) =>
nm (S_nu u_st 0) fun (x46 : Int32) =>
nm (p0 - v39) fun (x47 : Int32) =>
nm (if 0 ≤ x47 then x47 else 0 - x47) fun (x48 : Int32) =>
nm (x46 * x48) fun (x49 : Int32) =>
nm (x45 - x49) fun (x50 : Int32) =>
nm (if v38 < x50 then x50 else v38) fun (x51 : Int32) =>
nm (v39 + (1 : Int32)) fun (x52 : Int32) =>
rec x51 x52
)

def lf_X2_greatestOfAll_12 (fu : Nat) (u_st : TS) (p0 : Int32) : Nat → Int32 → Int32 → Option (Int32) := lq_2 (lb_X2_greatestOfAll_12 fu u_st p0)
def f_X2_greatestOfAll (fu : Nat) (u_sv : TV) (u_st : TS) (p0 : Int32) : Option (Int32) :=
ix p0 60 <|
nm ((S_lv u_st) p0.toNatClampNeg) fun (x22 : Int32) =>
bd (lf_X2_greatestOfAll_12 fu u_st p0 fu x22 ((0 : Int32))) fun (z41 : Int32) =>
some (z41)

abbrev rm_X2_greatestOfAll : Room := { frames := 1, cells := 0, slots := 0, locals := 40 }
set_option maxHeartbeats 4000000 in
set_option maxRecDepth 100000 in
theorem c_X2_greatestOfAll (l : Launch) (D : va_G) (cT : Nat → ClassId) (g : Nat → Nat) (b t : Nat) (fu : Nat) (u_sv : TV) (u_st : TS) (p0 : Int32) (o : Int32) (hf : f_X2_greatestOfAll fu u_sv u_st p0 = some o) (sz : Nat) : Met l yX2_greatestOfAll wsX2_greatestOfAll rm_X2_greatestOfAll (va_Pc [.ref (g b), .int p0] (PRE D cT sz (List.flatten [wV cT g b t u_sv, wS cT g t u_st]))) (QI D o (List.flatten [wV cT g b t u_sv, wS cT g t u_st]) (va_A (List.flatten [wV cT g b t u_sv, wS cT g t u_st]) sz)) 0 0 (va_A (List.flatten [wV cT g b t u_sv, wS cT g t u_st]) sz) := by
  refine Met.ofW (cc := cX2_greatestOfAll) (maxL := 5) (ret := (some .int)) (by decide) rfl ?_
  intro p e s m args below meth c s₁ B0 hml hv
  obtain ⟨hav, hsz, hP, hK, hD, hN, hZ⟩ := hv
  have hx := B0.exec
  have hb := B0.bytes
  have hr := B0.returns
  have hts := atoms_spec (ws := wsX2_greatestOfAll) B0.pre
  have hown : s.vm.findClass RX2 = some m.cls := findClass_of_methodNamed B0.named
  have hlocks := B0.notSynchronized
  subst hsz
  have hD := hD.self (sz := s.heap.size)
  have hA : ∀ q : Nat, s.heap.size ≤ q → va_A (List.flatten [wV cT g b t u_sv, wS cT g t u_st]) s.heap.size q := fun q h => Or.inr h
  generalize va_A (List.flatten [wV cT g b t u_sv, wS cT g t u_st]) s.heap.size = A at hD hZ hA ⊢
  have hS : va_S A s.heap s.heap [] := va_S.rf
  have hl := lv_entry ([.ref (g b), .int p0]) (n := 5) (Nat.le_of_ble_eq_true rfl)
  rw [hav]
  rw [lg_entry_eq]
  generalize (lg_sl ([.ref (g b), .int p0]) ++ List.replicate (5 - (lg_sl ([.ref (g b), .int p0])).length) Slot.unset).toArray = ls at hl ⊢
  have hl : lv_has ls 5 [(0, .ref (g b)), (1, .int p0)] := hl
  rw [← hav]
  generalize hQ : MQ below _ _ _ _ _ _ = Q
  show W p l e rm_X2_greatestOfAll s m args below meth c s.heap [] 0 0 Q (F0 m 0 ls [])
  unfold f_X2_greatestOfAll at hf
  refine lv_aload_n hx hb dX2_greatestOfAll_0 rfl (lv_at hl 0 rfl) ?_
  refine va_get (ci := 2) (v := .ref (g t)) (C := RX2) (T := TX2) (N := 8) hx hb hts iw_X2_greatestOfAll_X2 hown hK hP 0 rfl rfl 0 (by decide) (hts (.fieldLink RX2 35 "BallastTrack$Survey" "track" "LBallastTrack$State;") (List.mem_of_getElem? (i := 1) rfl)) (fun _ h9 => h9) rfl dX2_greatestOfAll_1 ?_
  refine va_get (ci := 1) (v := .ref (g (t + 2))) (C := RX1) (T := TX1) (N := 9) hx hb hts iw_X2_greatestOfAll_X1 hown hK hP 4 rfl rfl 3 (by decide) (hts (.fieldLink RX2 52 "BallastTrack$State" "levels" "[I") (List.mem_of_getElem? (i := 2) rfl)) (fun _ h9 => h9) rfl dX2_greatestOfAll_4 ?_
  refine lv_iload_n hx hb dX2_greatestOfAll_7 rfl (lv_at hl 1 rfl) ?_
  obtain ⟨hi21, hf⟩ := ix_i hf
  refine va_iald hx hb hK hP 6 0 rfl rfl hi21 dX2_greatestOfAll_8 ?_
  refine lv_topi (fun x22 ex22 => ?_)
  replace hf := nm_i hf ex22
  refine lv_istore_n (lv' := [(2, .int x22), (0, .ref (g b)), (1, .int p0)]) hx hb dX2_greatestOfAll_9 rfl hl (by decide) rfl (fun ls hl => ?_)
  refine lv_iconst (v := 0) hx hb dX2_greatestOfAll_10 (by decide) ?_
  refine lv_istore_n (lv' := [(3, .int ((0 : Int32))), (2, .int x22), (0, .ref (g b)), (1, .int p0)]) hx hb dX2_greatestOfAll_11 rfl hl (by decide) rfl (fun ls hl => ?_)
  obtain ⟨z41, hz41, hf⟩ := bd_i hf
  have hL12 : ∀ (n : Nat) (v38 : Int32) (v39 : Int32) (z40 : Int32), lf_X2_greatestOfAll_12 fu u_st p0 n v38 v39 = some z40 → ∀ (H : Heap) (locs : List Loc) (ls : Array Slot), va_P D vwCl (List.flatten [wV cT g b t u_sv, wS cT g t u_st]) H → va_S A s.heap H locs → lv_has ls 5 [(0, .ref (g b)), (1, .int p0), (2, .int v38), (3, .int v39)] → (∀ (H : Heap) (locs : List Loc) (ls : Array Slot), va_P D vwCl (List.flatten [wV cT g b t u_sv, wS cT g t u_st]) H → va_S A s.heap H locs → lv_has ls 5 [(2, .int z40)] → W p l e rm_X2_greatestOfAll s m args below meth c H locs 0 0 Q (F0 m 64 ls [])) → W p l e rm_X2_greatestOfAll s m args below meth c H locs 0 0 Q (F0 m 12 ls []) := by
    refine lq_2_ind (F := lb_X2_greatestOfAll_12 fu u_st p0) (fun rec ih v38 v39 z40 hf H locs ls hP hS hl kx => ?_)
    unfold lb_X2_greatestOfAll_12 at hf
    refine lv_iload_n hx hb dX2_greatestOfAll_12 rfl (lv_at hl 3 rfl) ?_
    refine lv_aload_n hx hb dX2_greatestOfAll_13 rfl (lv_at hl 0 rfl) ?_
    refine va_get (ci := 2) (v := .ref (g t)) (C := RX2) (T := TX2) (N := 8) hx hb hts iw_X2_greatestOfAll_X2 hown hK hP 0 rfl rfl 0 (by decide) (hts (.fieldLink RX2 35 "BallastTrack$Survey" "track" "LBallastTrack$State;") (List.mem_of_getElem? (i := 1) rfl)) (fun _ h9 => h9) rfl dX2_greatestOfAll_14 ?_
    refine va_get (ci := 1) (v := .int (S_sl u_st)) (C := RX1) (T := TX1) (N := 9) hx hb hts iw_X2_greatestOfAll_X1 hown hK hP 4 rfl rfl 0 (by decide) (hts (.fieldLink RX2 60 "BallastTrack$State" "sleepers" "I") (List.mem_of_getElem? (i := 3) rfl)) (fun _ h9 => h9) rfl dX2_greatestOfAll_17 ?_
    refine lv_topi (fun x42 ex42 => ?_)
    replace hf := nm_i hf ex42
    refine lv_icmp_ge (tgt := 64) hx hb dX2_greatestOfAll_20 (by decide) (fun c43 => ?_) (fun c43 => ?_)
    · replace hf := it_t hf c43
      obtain rfl := Option.some.inj hf
      exact kx _ _ _ hP hS (lv_sub hl [2] rfl)
    · replace hf := it_f hf c43
      refine lv_aload_n hx hb dX2_greatestOfAll_23 rfl (lv_at hl 0 rfl) ?_
      refine va_get (ci := 2) (v := .ref (g t)) (C := RX2) (T := TX2) (N := 8) hx hb hts iw_X2_greatestOfAll_X2 hown hK hP 0 rfl rfl 0 (by decide) (hts (.fieldLink RX2 35 "BallastTrack$Survey" "track" "LBallastTrack$State;") (List.mem_of_getElem? (i := 1) rfl)) (fun _ h9 => h9) rfl dX2_greatestOfAll_24 ?_
      refine va_get (ci := 1) (v := .ref (g (t + 2))) (C := RX1) (T := TX1) (N := 9) hx hb hts iw_X2_greatestOfAll_X1 hown hK hP 4 rfl rfl 3 (by decide) (hts (.fieldLink RX2 52 "BallastTrack$State" "levels" "[I") (List.mem_of_getElem? (i := 2) rfl)) (fun _ h9 => h9) rfl dX2_greatestOfAll_27 ?_
      refine lv_iload_n hx hb dX2_greatestOfAll_30 rfl (lv_at hl 3 rfl) ?_
      obtain ⟨hi44, hf⟩ := ix_i hf
      refine va_iald hx hb hK hP 6 0 rfl rfl hi44 dX2_greatestOfAll_31 ?_
      refine lv_topi (fun x45 ex45 => ?_)
      replace hf := nm_i hf ex45
      refine lv_aload_n hx hb dX2_greatestOfAll_32 rfl (lv_at hl 0 rfl) ?_
      refine va_get (ci := 2) (v := .ref (g t)) (C := RX2) (T := TX2) (N := 8) hx hb hts iw_X2_greatestOfAll_X2 hown hK hP 0 rfl rfl 0 (by decide) (hts (.fieldLink RX2 35 "BallastTrack$Survey" "track" "LBallastTrack$State;") (List.mem_of_getElem? (i := 1) rfl)) (fun _ h9 => h9) rfl dX2_greatestOfAll_33 ?_
      refine va_get (ci := 1) (v := .ref (g (t + 1))) (C := RX1) (T := TX1) (N := 9) hx hb hts iw_X2_greatestOfAll_X1 hown hK hP 4 rfl rfl 2 (by decide) (hts (.fieldLink RX2 57 "BallastTrack$State" "numbers" "[I") (List.mem_of_getElem? (i := 4) rfl)) (fun _ h9 => h9) rfl dX2_greatestOfAll_36 ?_
      refine lv_iconst (v := 0) hx hb dX2_greatestOfAll_39 (by decide) ?_
      refine va_iald hx hb hK hP 5 0 rfl rfl (by unfold vp_in; decide) dX2_greatestOfAll_40 ?_
      refine lv_topi (fun x46 ex46 => ?_)
      replace hf := nm_i hf ex46
      refine lv_iload_n hx hb dX2_greatestOfAll_41 rfl (lv_at hl 1 rfl) ?_
      refine lv_iload_n hx hb dX2_greatestOfAll_42 rfl (lv_at hl 3 rfl) ?_
      refine lv_isub hx hb dX2_greatestOfAll_43 ?_
      refine lv_topi (fun x47 ex47 => ?_)
      replace hf := nm_i hf ex47
      refine va_mabs hx hb (by rw [hml]; exact hl.1.symm) hown (hts (.methodLink RX2 67 Lib.Math.abs.name) (List.mem_of_getElem? (i := 5) rfl)) (hts (.static Lib.Math.abs.name) (List.mem_of_getElem? (i := 6) rfl)) (hts (.initialized "java/lang/Math") (List.mem_of_getElem? (i := 7) rfl)) (hts (.code Lib.Math.abs.name Lib.Math.abs.code 1 (some .int)) (List.mem_of_getElem? (i := 8) rfl)) (Nat.le_of_ble_eq_true rfl) (Nat.le_of_ble_eq_true rfl) (Nat.le_of_ble_eq_true rfl) (Nat.le_of_ble_eq_true rfl) dX2_greatestOfAll_44 ?_
      refine lv_topi (fun x48 ex48 => ?_)
      replace hf := nm_i hf ex48
      refine lv_imul hx hb dX2_greatestOfAll_47 ?_
      refine lv_topi (fun x49 ex49 => ?_)
      replace hf := nm_i hf ex49
      refine lv_isub hx hb dX2_greatestOfAll_48 ?_
      refine lv_topi (fun x50 ex50 => ?_)
      replace hf := nm_i hf ex50
      refine lv_istore (lv' := [(4, .int x50), (0, .ref (g b)), (1, .int p0), (2, .int v38), (3, .int v39)]) hx hb dX2_greatestOfAll_49 hl (by decide) rfl (fun ls hl => ?_)
      refine lv_iload_n hx hb dX2_greatestOfAll_51 rfl (lv_at hl 3 rfl) ?_
      refine lv_iload hx hb dX2_greatestOfAll_52 (lv_at hl 0 rfl) ?_
      refine va_mmax hx hb (by rw [hml]; exact hl.1.symm) hown (hts (.methodLink RX2 72 Lib.Math.max.name) (List.mem_of_getElem? (i := 9) rfl)) (hts (.static Lib.Math.max.name) (List.mem_of_getElem? (i := 10) rfl)) (hts (.initialized "java/lang/Math") (List.mem_of_getElem? (i := 7) rfl)) (hts (.code Lib.Math.max.name Lib.Math.max.code 2 (some .int)) (List.mem_of_getElem? (i := 11) rfl)) (Nat.le_of_ble_eq_true rfl) (Nat.le_of_ble_eq_true rfl) (Nat.le_of_ble_eq_true rfl) (Nat.le_of_ble_eq_true rfl) dX2_greatestOfAll_54 ?_
      refine lv_topi (fun x51 ex51 => ?_)
      replace hf := nm_i hf ex51
      refine lv_istore_n (lv' := [(2, .int x51), (4, .int x50), (0, .ref (g b)), (1, .int p0), (3, .int v39)]) hx hb dX2_greatestOfAll_57 rfl hl (by decide) rfl (fun ls hl => ?_)
      obtain ⟨x52, ex52⟩ : ∃ z : Int32, z = v39 + (1 : Int32) := ⟨_, rfl⟩
      replace hf := nm_i hf ex52
      refine lv_iinc (v := x52) (lv' := [(3, .int x52), (2, .int x51), (4, .int x50), (0, .ref (g b)), (1, .int p0)]) hx hb dX2_greatestOfAll_58 hl (k := 4) rfl (by rw [ex52]; rfl) (by decide) rfl (fun ls hl => ?_)
      refine lv_goto (tgt := 12) hx hb dX2_greatestOfAll_61 (by decide) ?_
      exact ih _ _ _ hf _ _ _ hP hS (lv_sub hl [3, 4, 1, 0] rfl) kx
  refine hL12 fu _ _ _ hz41 _ _ _ hP hS (lv_sub hl [2, 3, 1, 0] rfl) (fun H locs ls hP hS hl => ?_)
  refine lv_iload_n hx hb dX2_greatestOfAll_64 rfl (lv_at hl 0 rfl) ?_
  obtain rfl := Option.some.inj hf
  subst hQ
  exact en_i hx hb hr hP hS hlocks dX2_greatestOfAll_65
theorem iw_X2_handOn_X2 : ∀ w ∈ u_ws RX2 TX2 8, w ∈ wsX2_handOn := by decide +kernel
def f_X2_handOn (fu : Nat) (u_sv : TV) (u_st : TS) (p0 : Int32) (p1 : Int32) (p2 : Int32) : Option (TV) :=
jn (fun (u72 : TV) =>
if p1 < 0 then (
some (u72)
)
else (
ix p1 60 <|
nm ((V_lo u72) p1.toNatClampNeg) fun (x90 : Int32) =>
jn (fun (x93 : Int32) =>
nm (x90 + x93) fun (x98 : Int32) =>
ix p1 60 <|
nm (V_lo_ u72 (upd (V_lo u72) p1.toNatClampNeg x98)) fun (u100 : TV) =>
some (u100)
) fun K46_97 =>
if p0 < 0 then (
nm ((2 : Int32) * p2) fun (x102 : Int32) =>
K46_97 x102
)
else (
K46_97 p2
)
)
) fun K24_87 =>
if p0 < 0 then (
K24_87 u_sv
)
else (
ix p0 60 <|
nm ((V_lo u_sv) p0.toNatClampNeg) fun (x105 : Int32) =>
jn (fun (x108 : Int32) =>
nm (x105 + x108) fun (x113 : Int32) =>
ix p0 60 <|
nm (V_lo_ u_sv (upd (V_lo u_sv) p0.toNatClampNeg x113)) fun (u115 : TV) =>
K24_87 u115
) fun K22_112 =>
if p1 < 0 then (
nm ((2 : Int32) * p2) fun (x117 : Int32) =>
K22_112 x117
)
else (
K22_112 p2
)
)

abbrev rm_X2_handOn : Room := { frames := 0, cells := 0, slots := 0, locals := 0 }
set_option maxHeartbeats 4000000 in
set_option maxRecDepth 100000 in
theorem c_X2_handOn (l : Launch) (D : va_G) (cT : Nat → ClassId) (g : Nat → Nat) (b t : Nat) (fu : Nat) (u_sv : TV) (u_st : TS) (p0 : Int32) (p1 : Int32) (p2 : Int32) (o : TV) (hf : f_X2_handOn fu u_sv u_st p0 p1 p2 = some o) (sz : Nat) : Met l yX2_handOn wsX2_handOn rm_X2_handOn (va_Pc [.ref (g b), .int p0, .int p1, .int p2] (PRE D cT sz (List.flatten [wV cT g b t u_sv, wS cT g t u_st]))) (QV D (List.flatten [wV cT g b t o, wS cT g t u_st]) (va_A (List.flatten [wV cT g b t u_sv, wS cT g t u_st]) sz)) 0 0 (va_A (List.flatten [wV cT g b t u_sv, wS cT g t u_st]) sz) := by
  refine Met.ofW (cc := cX2_handOn) (maxL := 4) (ret := none) (by decide) rfl ?_
  intro p e s m args below meth c s₁ B0 hml hv
  obtain ⟨hav, hsz, hP, hK, hD, hN, hZ⟩ := hv
  have hx := B0.exec
  have hb := B0.bytes
  have hr := B0.returns
  have hts := atoms_spec (ws := wsX2_handOn) B0.pre
  have hown : s.vm.findClass RX2 = some m.cls := findClass_of_methodNamed B0.named
  have hlocks := B0.notSynchronized
  subst hsz
  have hD := hD.self (sz := s.heap.size)
  have hA : ∀ q : Nat, s.heap.size ≤ q → va_A (List.flatten [wV cT g b t u_sv, wS cT g t u_st]) s.heap.size q := fun q h => Or.inr h
  generalize va_A (List.flatten [wV cT g b t u_sv, wS cT g t u_st]) s.heap.size = A at hD hZ hA ⊢
  have hS : va_S A s.heap s.heap [] := va_S.rf
  have hl := lv_entry ([.ref (g b), .int p0, .int p1, .int p2]) (n := 4) (Nat.le_of_ble_eq_true rfl)
  rw [hav]
  rw [lg_entry_eq]
  generalize (lg_sl ([.ref (g b), .int p0, .int p1, .int p2]) ++ List.replicate (4 - (lg_sl ([.ref (g b), .int p0, .int p1, .int p2])).length) Slot.unset).toArray = ls at hl ⊢
  have hl : lv_has ls 4 [(0, .ref (g b)), (1, .int p0), (2, .int p1), (3, .int p2)] := hl
  rw [← hav]
  generalize hQ : MQ below _ _ _ _ _ _ = Q
  show W p l e rm_X2_handOn s m args below meth c s.heap [] 0 0 Q (F0 m 0 ls [])
  unfold f_X2_handOn at hf
  refine lv_iload_n hx hb dX2_handOn_0 rfl (lv_at hl 1 rfl) ?_
  obtain ⟨K24_87, eK24_87, hf⟩ := jn_i hf
  have hK24_87 : ∀ (u72 : TV) (H : Heap) (locs : List Loc) (ls : Array Slot), K24_87 u72 = some o → va_P D vwCl (List.flatten [wV cT g b t u72, wS cT g t u_st]) H → va_S A s.heap H locs → lv_has ls 4 [(0, .ref (g b)), (1, .int p0), (2, .int p1), (3, .int p2)] → W p l e rm_X2_handOn s m args below meth c H locs 0 0 Q (F0 m 24 ls []) := by
    intro u72 H locs ls hf hP hS hl
    rw [eK24_87] at hf
    refine lv_iload_n hx hb dX2_handOn_24 rfl (lv_at hl 2 rfl) ?_
    refine lv_if_lt (tgt := 48) hx hb dX2_handOn_25 (by decide) (fun c88 => ?_) (fun c88 => ?_)
    · replace hf := it_t hf c88
      obtain rfl := Option.some.inj hf
      subst hQ
      exact en_v hx hb hr hP hS hlocks dX2_handOn_48
    · replace hf := it_f hf c88
      refine lv_aload_n hx hb dX2_handOn_28 rfl (lv_at hl 0 rfl) ?_
      refine va_get (ci := 2) (v := .ref (g (b + 2))) (C := RX2) (T := TX2) (N := 8) hx hb hts iw_X2_handOn_X2 hown hK hP 0 rfl rfl 2 (by decide) (hts (.fieldLink RX2 15 "BallastTrack$Survey" "loads" "[I") (List.mem_of_getElem? (i := 1) rfl)) (fun _ h9 => h9) rfl dX2_handOn_29 ?_
      refine lv_iload_n hx hb dX2_handOn_32 rfl (lv_at hl 2 rfl) ?_
      refine lv_dup2_11 hx hb dX2_handOn_33 rfl rfl ?_
      obtain ⟨hi89, hf⟩ := ix_i hf
      refine va_iald hx hb hK hP 2 0 rfl rfl hi89 dX2_handOn_34 ?_
      refine lv_topi (fun x90 ex90 => ?_)
      replace hf := nm_i hf ex90
      refine lv_iload_n hx hb dX2_handOn_35 rfl (lv_at hl 1 rfl) ?_
      obtain ⟨K46_97, eK46_97, hf⟩ := jn_i hf
      have hK46_97 : ∀ (x93 : Int32) (H : Heap) (locs : List Loc) (ls : Array Slot), K46_97 x93 = some o → va_P D vwCl (List.flatten [wV cT g b t u72, wS cT g t u_st]) H → va_S A s.heap H locs → lv_has ls 4 [] → W p l e rm_X2_handOn s m args below meth c H locs 0 0 Q (F0 m 46 ls [.int x93, .int x90, .int p1, .ref (g (b + 2))]) := by
        intro x93 H locs ls hf hP hS hl
        rw [eK46_97] at hf
        refine lv_iadd hx hb dX2_handOn_46 ?_
        refine lv_topi (fun x98 ex98 => ?_)
        replace hf := nm_i hf ex98
        obtain ⟨hi99, hf⟩ := ix_i hf
        refine va_iast hx hb hK hP (va_D_adr hD rfl) hS 2 0 rfl rfl hi99 dX2_handOn_47 (fun H locs hP _ hS => ?_)
        obtain ⟨u100, eu100⟩ : ∃ z : TV, z = V_lo_ u72 (upd (V_lo u72) p1.toNatClampNeg x98) := ⟨_, rfl⟩
        replace hf := nm_i hf eu100
        have hP : va_P D vwCl (List.flatten [wV cT g b t u100, wS cT g t u_st]) H := by rw [eu100]; exact hP
        obtain rfl := Option.some.inj hf
        subst hQ
        exact en_v hx hb hr hP hS hlocks dX2_handOn_48
      clear eK46_97
      refine lv_if_lt (tgt := 43) hx hb dX2_handOn_36 (by decide) (fun c101 => ?_) (fun c101 => ?_)
      · replace hf := it_t hf c101
        refine lv_iconst (v := 2) hx hb dX2_handOn_43 (by decide) ?_
        refine lv_iload_n hx hb dX2_handOn_44 rfl (lv_at hl 3 rfl) ?_
        refine lv_imul hx hb dX2_handOn_45 ?_
        refine lv_topi (fun x102 ex102 => ?_)
        replace hf := nm_i hf ex102
        exact hK46_97 _ _ _ _ hf hP hS (lv_sub hl [] rfl)
      · replace hf := it_f hf c101
        refine lv_iload_n hx hb dX2_handOn_39 rfl (lv_at hl 3 rfl) ?_
        refine lv_goto (tgt := 46) hx hb dX2_handOn_40 (by decide) ?_
        exact hK46_97 _ _ _ _ hf hP hS (lv_sub hl [] rfl)
  clear eK24_87
  refine lv_if_lt (tgt := 24) hx hb dX2_handOn_1 (by decide) (fun c103 => ?_) (fun c103 => ?_)
  · replace hf := it_t hf c103
    exact hK24_87 _ _ _ _ hf hP hS (lv_sub hl [0, 1, 2, 3] rfl)
  · replace hf := it_f hf c103
    refine lv_aload_n hx hb dX2_handOn_4 rfl (lv_at hl 0 rfl) ?_
    refine va_get (ci := 2) (v := .ref (g (b + 2))) (C := RX2) (T := TX2) (N := 8) hx hb hts iw_X2_handOn_X2 hown hK hP 0 rfl rfl 2 (by decide) (hts (.fieldLink RX2 15 "BallastTrack$Survey" "loads" "[I") (List.mem_of_getElem? (i := 1) rfl)) (fun _ h9 => h9) rfl dX2_handOn_5 ?_
    refine lv_iload_n hx hb dX2_handOn_8 rfl (lv_at hl 1 rfl) ?_
    refine lv_dup2_11 hx hb dX2_handOn_9 rfl rfl ?_
    obtain ⟨hi104, hf⟩ := ix_i hf
    refine va_iald hx hb hK hP 2 0 rfl rfl hi104 dX2_handOn_10 ?_
    refine lv_topi (fun x105 ex105 => ?_)
    replace hf := nm_i hf ex105
    refine lv_iload_n hx hb dX2_handOn_11 rfl (lv_at hl 2 rfl) ?_
    obtain ⟨K22_112, eK22_112, hf⟩ := jn_i hf
    have hK22_112 : ∀ (x108 : Int32) (H : Heap) (locs : List Loc) (ls : Array Slot), K22_112 x108 = some o → va_P D vwCl (List.flatten [wV cT g b t u_sv, wS cT g t u_st]) H → va_S A s.heap H locs → lv_has ls 4 [(0, .ref (g b)), (1, .int p0), (2, .int p1), (3, .int p2)] → W p l e rm_X2_handOn s m args below meth c H locs 0 0 Q (F0 m 22 ls [.int x108, .int x105, .int p0, .ref (g (b + 2))]) := by
      intro x108 H locs ls hf hP hS hl
      rw [eK22_112] at hf
      refine lv_iadd hx hb dX2_handOn_22 ?_
      refine lv_topi (fun x113 ex113 => ?_)
      replace hf := nm_i hf ex113
      obtain ⟨hi114, hf⟩ := ix_i hf
      refine va_iast hx hb hK hP (va_D_adr hD rfl) hS 2 0 rfl rfl hi114 dX2_handOn_23 (fun H locs hP _ hS => ?_)
      obtain ⟨u115, eu115⟩ : ∃ z : TV, z = V_lo_ u_sv (upd (V_lo u_sv) p0.toNatClampNeg x113) := ⟨_, rfl⟩
      replace hf := nm_i hf eu115
      have hP : va_P D vwCl (List.flatten [wV cT g b t u115, wS cT g t u_st]) H := by rw [eu115]; exact hP
      exact hK24_87 _ _ _ _ hf hP hS (lv_sub hl [0, 1, 2, 3] rfl)
    clear eK22_112
    refine lv_if_lt (tgt := 19) hx hb dX2_handOn_12 (by decide) (fun c116 => ?_) (fun c116 => ?_)
    · replace hf := it_t hf c116
      refine lv_iconst (v := 2) hx hb dX2_handOn_19 (by decide) ?_
      refine lv_iload_n hx hb dX2_handOn_20 rfl (lv_at hl 3 rfl) ?_
      refine lv_imul hx hb dX2_handOn_21 ?_
      refine lv_topi (fun x117 ex117 => ?_)
      replace hf := nm_i hf ex117
      exact hK22_112 _ _ _ _ hf hP hS (lv_sub hl [0, 1, 2, 3] rfl)
    · replace hf := it_f hf c116
      refine lv_iload_n hx hb dX2_handOn_15 rfl (lv_at hl 3 rfl) ?_
      refine lv_goto (tgt := 22) hx hb dX2_handOn_16 (by decide) ?_
      exact hK22_112 _ _ _ _ hf hP hS (lv_sub hl [0, 1, 2, 3] rfl)
