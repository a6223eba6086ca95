theorem iw_X3_fail_X3 : ∀ w ∈ u_ws RX3 TX3 4, w ∈ wsX3_fail := by decide +kernel
def f_X3_fail (fu : Nat) (u_tx : TX) (p0 : Int32) : Option (Int32 × TX) :=
nm (X_ep_ u_tx p0) fun (u2 : TX) =>
some ((-1 : Int32), u2)

abbrev rm_X3_fail : Room := { frames := 0, cells := 0, slots := 0, locals := 0 }
set_option maxHeartbeats 4000000 in
set_option maxRecDepth 100000 in
theorem c_X3_fail (l : Launch) (D : va_G) (cT : Nat → ClassId) (g : Nat → Nat) (b : Nat) (fu : Nat) (u_tx : TX) (p0 : Int32) (o : Int32 × TX) (hf : f_X3_fail fu u_tx p0 = some o) (sz : Nat) : Met l yX3_fail wsX3_fail rm_X3_fail (va_Pc [.ref (g b), .int p0] (PRE D cT sz (List.flatten [wX cT g b u_tx]))) (QI D o.1 (List.flatten [wX cT g b o.2]) (va_A (List.flatten [wX cT g b u_tx]) sz)) 0 0 (va_A (List.flatten [wX cT g b u_tx]) sz) := by
  refine Met.ofW (cc := cX3_fail) (maxL := 2) (ret := (some .int)) (by decide) rfl ?_
  intro p e s m args below meth c s₁ B0 hml hv
  obtain ⟨hav, hsz, hP, hK, hD, hN, hZ⟩ := hv
  have hx := B0.exec
  have hb := B0.bytes
  have hr := B0.returns
  have hts := atoms_spec (ws := wsX3_fail) B0.pre
  have hown : s.vm.findClass RX3 = some m.cls := findClass_of_methodNamed B0.named
  have hlocks := B0.notSynchronized
  subst hsz
  have hD := hD.self (sz := s.heap.size)
  have hA : ∀ q : Nat, s.heap.size ≤ q → va_A (List.flatten [wX cT g b u_tx]) s.heap.size q := fun q h => Or.inr h
  generalize va_A (List.flatten [wX cT g b u_tx]) s.heap.size = A at hD hZ hA ⊢
  have hS : va_S A s.heap s.heap [] := va_S.rf
  have hl := lv_entry ([.ref (g b), .int p0]) (n := 2) (Nat.le_of_ble_eq_true rfl)
  rw [hav]
  rw [lg_entry_eq]
  generalize (lg_sl ([.ref (g b), .int p0]) ++ List.replicate (2 - (lg_sl ([.ref (g b), .int p0])).length) Slot.unset).toArray = ls at hl ⊢
  have hl : lv_has ls 2 [(0, .ref (g b)), (1, .int p0)] := hl
  rw [← hav]
  generalize hQ : MQ below _ _ _ _ _ _ = Q
  show W p l e rm_X3_fail s m args below meth c s.heap [] 0 0 Q (F0 m 0 ls [])
  unfold f_X3_fail at hf
  refine lv_aload_n hx hb dX3_fail_0 rfl (lv_at hl 0 rfl) ?_
  refine lv_iload_n hx hb dX3_fail_1 rfl (lv_at hl 1 rfl) ?_
  refine va_put (ci := 3) (v := .int p0) (ty := .int) (C := RX3) (T := TX3) (N := 4) hx hb hts iw_X3_fail_X3 tyX3 tyX3_ok nmX3 hown hK hP (va_D_adr hD rfl) hS 0 rfl rfl 2 (by decide) (hts (.fieldLink RX3 19 "BallastTrack$Text" "errorPosition" "I") (List.mem_of_getElem? (i := 1) rfl)) (fun _ h9 => h9) rfl (by decide +kernel) rfl rfl (Nat.le_of_ble_eq_true rfl) dX3_fail_2 (fun H locs hP _ hS => ?_)
  obtain ⟨u2, eu2⟩ : ∃ z : TX, z = X_ep_ u_tx p0 := ⟨_, rfl⟩
  replace hf := nm_i hf eu2
  have hP : va_P D vwCl (List.flatten [wX cT g b u2]) H := by rw [eu2]; exact hP
  refine lv_iconst (v := -1) hx hb dX3_fail_5 (by decide) ?_
  obtain rfl := Option.some.inj hf
  subst hQ
  exact en_i hx hb hr hP hS hlocks dX3_fail_6
theorem iw_X3_skipSpaces_X3 : ∀ w ∈ u_ws RX3 TX3 4, w ∈ wsX3_skipSpaces := by decide +kernel
def lb_X3_skipSpaces_0 (fu : Nat)  (rec : TX → Option (TX)) (u25 : TX) : Option (TX) :=
nm (X_po u25) fun (x28 : Int32) =>
nm (X_ln u25) fun (x29 : Int32) =>
if x29 ≤ x28 then (
some (u25)
)
else (
nm (X_po u25) fun (x31 : Int32) =>
ix x31 100 <|
nm ((X_ch u25) x31.toNatClampNeg) fun (x33 : Int32) =>
if ¬ x33 = (32 : Int32) then (
some (u25)
)
else (
nm (X_po u25) fun (x35 : Int32) =>
nm (x35 + (1 : Int32)) fun (x36 : Int32) =>
nm (X_po_ u25 x36) fun (u37 : TX) =>
rec u37
)
)

def lf_X3_skipSpaces_0 (fu : Nat)  : Nat → TX → Option (TX) := lq_1 (lb_X3_skipSpaces_0 fu )
def f_X3_skipSpaces (fu : Nat) (u_tx : TX)  : Option (TX) :=
bd (lf_X3_skipSpaces_0 fu  fu u_tx) fun (z27 : TX) =>
some (z27)

abbrev rm_X3_skipSpaces : Room := { frames := 0, cells := 0, slots := 0, locals := 0 }
set_option maxHeartbeats 4000000 in
set_option maxRecDepth 100000 in
theorem c_X3_skipSpaces (l : Launch) (D : va_G) (cT : Nat → ClassId) (g : Nat → Nat) (b : Nat) (fu : Nat) (u_tx : TX)  (o : TX) (hf : f_X3_skipSpaces fu u_tx  = some o) (sz : Nat) : Met l yX3_skipSpaces wsX3_skipSpaces rm_X3_skipSpaces (va_Pc [.ref (g b)] (PRE D cT sz (List.flatten [wX cT g b u_tx]))) (QV D (List.flatten [wX cT g b o]) (va_A (List.flatten [wX cT g b u_tx]) sz)) 0 0 (va_A (List.flatten [wX cT g b u_tx]) sz) := by
  refine Met.ofW (cc := cX3_skipSpaces) (maxL := 1) (ret := none) (by decide) rfl ?_
  intro p e s m args below meth c s₁ B0 hml hv
  obtain ⟨hav, hsz, hP, hK, hD, hN, hZ⟩ := hv
  have hx := B0.exec
  have hb := B0.bytes
  have hr := B0.returns
  have hts := atoms_spec (ws := wsX3_skipSpaces) B0.pre
  have hown : s.vm.findClass RX3 = some m.cls := findClass_of_methodNamed B0.named
  have hlocks := B0.notSynchronized
  subst hsz
  have hD := hD.self (sz := s.heap.size)
  have hA : ∀ q : Nat, s.heap.size ≤ q → va_A (List.flatten [wX cT g b u_tx]) s.heap.size q := fun q h => Or.inr h
  generalize va_A (List.flatten [wX cT g b u_tx]) s.heap.size = A at hD hZ hA ⊢
  have hS : va_S A s.heap s.heap [] := va_S.rf
  have hl := lv_entry ([.ref (g b)]) (n := 1) (Nat.le_of_ble_eq_true rfl)
  rw [hav]
  rw [lg_entry_eq]
  generalize (lg_sl ([.ref (g b)]) ++ List.replicate (1 - (lg_sl ([.ref (g b)])).length) Slot.unset).toArray = ls at hl ⊢
  have hl : lv_has ls 1 [(0, .ref (g b))] := hl
  rw [← hav]
  generalize hQ : MQ below _ _ _ _ _ _ = Q
  show W p l e rm_X3_skipSpaces s m args below meth c s.heap [] 0 0 Q (F0 m 0 ls [])
  unfold f_X3_skipSpaces at hf
  obtain ⟨z27, hz27, hf⟩ := bd_i hf
  have hL0 : ∀ (n : Nat) (u25 : TX) (z26 : TX), lf_X3_skipSpaces_0 fu  n u25 = some z26 → ∀ (H : Heap) (locs : List Loc) (ls : Array Slot), va_P D vwCl (List.flatten [wX cT g b u25]) H → va_S A s.heap H locs → lv_has ls 1 [(0, .ref (g b))] → (∀ (H : Heap) (locs : List Loc) (ls : Array Slot), va_P D vwCl (List.flatten [wX cT g b z26]) H → va_S A s.heap H locs → lv_has ls 1 [] → W p l e rm_X3_skipSpaces s m args below meth c H locs 0 0 Q (F0 m 38 ls [])) → W p l e rm_X3_skipSpaces s m args below meth c H locs 0 0 Q (F0 m 0 ls []) := by
    refine lq_1_ind (F := lb_X3_skipSpaces_0 fu ) (fun rec ih u25 z26 hf H locs ls hP hS hl kx => ?_)
    unfold lb_X3_skipSpaces_0 at hf
    refine lv_aload_n hx hb dX3_skipSpaces_0 rfl (lv_at hl 0 rfl) ?_
    refine va_get (ci := 3) (v := .int (X_po u25)) (C := RX3) (T := TX3) (N := 4) hx hb hts iw_X3_skipSpaces_X3 hown hK hP 0 rfl rfl 3 (by decide) (hts (.fieldLink RX3 22 "BallastTrack$Text" "position" "I") (List.mem_of_getElem? (i := 1) rfl)) (fun _ h9 => h9) rfl dX3_skipSpaces_1 ?_
    refine lv_topi (fun x28 ex28 => ?_)
    replace hf := nm_i hf ex28
    refine lv_aload_n hx hb dX3_skipSpaces_4 rfl (lv_at hl 0 rfl) ?_
    refine va_get (ci := 3) (v := .int (X_ln u25)) (C := RX3) (T := TX3) (N := 4) hx hb hts iw_X3_skipSpaces_X3 hown hK hP 0 rfl rfl 1 (by decide) (hts (.fieldLink RX3 15 "BallastTrack$Text" "length" "I") (List.mem_of_getElem? (i := 2) rfl)) (fun _ h9 => h9) rfl dX3_skipSpaces_5 ?_
    refine lv_topi (fun x29 ex29 => ?_)
    replace hf := nm_i hf ex29
    refine lv_icmp_ge (tgt := 38) hx hb dX3_skipSpaces_8 (by decide) (fun c30 => ?_) (fun c30 => ?_)
    · replace hf := it_t hf c30
      obtain rfl := Option.some.inj hf
      exact kx _ _ _ hP hS (lv_sub hl [] rfl)
    · replace hf := it_f hf c30
      refine lv_aload_n hx hb dX3_skipSpaces_11 rfl (lv_at hl 0 rfl) ?_
      refine va_get (ci := 3) (v := .ref (g (b + 1))) (C := RX3) (T := TX3) (N := 4) hx hb hts iw_X3_skipSpaces_X3 hown hK hP 0 rfl rfl 0 (by decide) (hts (.fieldLink RX3 9 "BallastTrack$Text" "characters" "[I") (List.mem_of_getElem? (i := 3) rfl)) (fun _ h9 => h9) rfl dX3_skipSpaces_12 ?_
      refine lv_aload_n hx hb dX3_skipSpaces_15 rfl (lv_at hl 0 rfl) ?_
      refine va_get (ci := 3) (v := .int (X_po u25)) (C := RX3) (T := TX3) (N := 4) hx hb hts iw_X3_skipSpaces_X3 hown hK hP 0 rfl rfl 3 (by decide) (hts (.fieldLink RX3 22 "BallastTrack$Text" "position" "I") (List.mem_of_getElem? (i := 1) rfl)) (fun _ h9 => h9) rfl dX3_skipSpaces_16 ?_
      refine lv_topi (fun x31 ex31 => ?_)
      replace hf := nm_i hf ex31
      obtain ⟨hi32, hf⟩ := ix_i hf
      refine va_iald hx hb hK hP 1 0 rfl rfl hi32 dX3_skipSpaces_19 ?_
      refine lv_topi (fun x33 ex33 => ?_)
      replace hf := nm_i hf ex33
      refine lv_bipush (v := 32) hx hb dX3_skipSpaces_20 (by decide) ?_
      refine lv_icmp_ne (tgt := 38) hx hb dX3_skipSpaces_22 (by decide) (fun c34 => ?_) (fun c34 => ?_)
      · replace hf := it_t hf c34
        obtain rfl := Option.some.inj hf
        exact kx _ _ _ hP hS (lv_sub hl [] rfl)
      · replace hf := it_f hf (not_not_intro c34)
        refine lv_aload_n hx hb dX3_skipSpaces_25 rfl (lv_at hl 0 rfl) ?_
        refine lv_dup hx hb dX3_skipSpaces_26 rfl ?_
        refine va_get (ci := 3) (v := .int (X_po u25)) (C := RX3) (T := TX3) (N := 4) hx hb hts iw_X3_skipSpaces_X3 hown hK hP 0 rfl rfl 3 (by decide) (hts (.fieldLink RX3 22 "BallastTrack$Text" "position" "I") (List.mem_of_getElem? (i := 1) rfl)) (fun _ h9 => h9) rfl dX3_skipSpaces_27 ?_
        refine lv_topi (fun x35 ex35 => ?_)
        replace hf := nm_i hf ex35
        refine lv_iconst (v := 1) hx hb dX3_skipSpaces_30 (by decide) ?_
        refine lv_iadd hx hb dX3_skipSpaces_31 ?_
        refine lv_topi (fun x36 ex36 => ?_)
        replace hf := nm_i hf ex36
        refine va_put (ci := 3) (v := .int x36) (ty := .int) (C := RX3) (T := TX3) (N := 4) hx hb hts iw_X3_skipSpaces_X3 tyX3 tyX3_ok nmX3 hown hK hP (va_D_adr hD rfl) hS 0 rfl rfl 3 (by decide) (hts (.fieldLink RX3 22 "BallastTrack$Text" "position" "I") (List.mem_of_getElem? (i := 1) rfl)) (fun _ h9 => h9) rfl (by decide +kernel) rfl rfl (Nat.le_of_ble_eq_true rfl) dX3_skipSpaces_32 (fun H locs hP _ hS => ?_)
        obtain ⟨u37, eu37⟩ : ∃ z : TX, z = X_po_ u25 x36 := ⟨_, rfl⟩
        replace hf := nm_i hf eu37
        have hP : va_P D vwCl (List.flatten [wX cT g b u37]) H := by rw [eu37]; exact hP
        refine lv_goto (tgt := 0) hx hb dX3_skipSpaces_35 (by decide) ?_
        exact ih _ _ hf _ _ _ hP hS (lv_sub hl [0] rfl) kx
  refine hL0 fu _ _ hz27 _ _ _ hP hS (lv_sub hl [0] rfl) (fun H locs ls hP hS hl => ?_)
  obtain rfl := Option.some.inj hf
  subst hQ
  exact en_v hx hb hr hP hS hlocks dX3_skipSpaces_38
theorem iw_X3_takes_X3 : ∀ w ∈ u_ws RX3 TX3 4, w ∈ wsX3_takes := by decide +kernel
def f_X3_takes (fu : Nat) (u_tx : TX) (p0 : Int32) : Option (Bool × TX) :=
bd (f_X3_skipSpaces fu u_tx ) fun (o12 : TX) =>
nm (X_po o12) fun (x13 : Int32) =>
nm (X_ln o12) fun (x14 : Int32) =>
if x14 ≤ x13 then (
some (false, o12)
)
else (
nm (X_po o12) fun (x16 : Int32) =>
ix x16 100 <|
nm ((X_ch o12) x16.toNatClampNeg) fun (x18 : Int32) =>
if x18 = p0 then (
nm (X_po o12) fun (x20 : Int32) =>
nm (x20 + (1 : Int32)) fun (x21 : Int32) =>
nm (X_po_ o12 x21) fun (u22 : TX) =>
some (true, u22)
)
else (
some (false, o12)
)
)

abbrev rm_X3_takes : Room := { frames := 1, cells := 0, slots := 0, locals := 20 }
set_option maxHeartbeats 4000000 in
set_option maxRecDepth 100000 in
theorem c_X3_takes (l : Launch) (D : va_G) (cT : Nat → ClassId) (g : Nat → Nat) (b : Nat) (fu : Nat) (u_tx : TX) (p0 : Int32) (o : Bool × TX) (hf : f_X3_takes fu u_tx p0 = some o) (sz : Nat) : Met l yX3_takes wsX3_takes rm_X3_takes (va_Pc [.ref (g b), .int p0] (PRE D cT sz (List.flatten [wX cT g b u_tx]))) (QI D (bI o.1) (List.flatten [wX cT g b o.2]) (va_A (List.flatten [wX cT g b u_tx]) sz)) 0 0 (va_A (List.flatten [wX cT g b u_tx]) sz) := by
  refine Met.ofW (cc := cX3_takes) (maxL := 2) (ret := (some .boolean)) (by decide) rfl ?_
  intro p e s m args below meth c s₁ B0 hml hv
  obtain ⟨hav, hsz, hP, hK, hD, hN, hZ⟩ := hv
  have hx := B0.exec
  have hb := B0.bytes
  have hr := B0.returns
  have hts := atoms_spec (ws := wsX3_takes) B0.pre
  have hown : s.vm.findClass RX3 = some m.cls := findClass_of_methodNamed B0.named
  have hlocks := B0.notSynchronized
  subst hsz
  have hD := hD.self (sz := s.heap.size)
  have hA : ∀ q : Nat, s.heap.size ≤ q → va_A (List.flatten [wX cT g b u_tx]) s.heap.size q := fun q h => Or.inr h
  generalize va_A (List.flatten [wX cT g b u_tx]) s.heap.size = A at hD hZ hA ⊢
  have hS : va_S A s.heap s.heap [] := va_S.rf
  have hl := lv_entry ([.ref (g b), .int p0]) (n := 2) (Nat.le_of_ble_eq_true rfl)
  rw [hav]
  rw [lg_entry_eq]
  generalize (lg_sl ([.ref (g b), .int p0]) ++ List.replicate (2 - (lg_sl ([.ref (g b), .int p0])).length) Slot.unset).toArray = ls at hl ⊢
  have hl : lv_has ls 2 [(0, .ref (g b)), (1, .int p0)] := hl
  rw [← hav]
  generalize hQ : MQ below _ _ _ _ _ _ = Q
  show W p l e rm_X3_takes s m args below meth c s.heap [] 0 0 Q (F0 m 0 ls [])
  unfold f_X3_takes at hf
  refine lv_aload_n hx hb dX3_takes_0 rfl (lv_at hl 0 rfl) ?_
  obtain ⟨o12, ho12, hf⟩ := bd_i hf
  refine cl_v [0] [] [wX cT g b o12] hP (va_D_adr hD rfl) hA hS (va_runV (As := []) (rest := []) ⟨hx, hb, hml, hown, hts⟩ (c_X3_skipSpaces l D cT g b fu u_tx  o12 ho12 _) (cwV 0 hts gX3_takes_X3_skipSpaces rfl rfl rfl (by decide +kernel) ⟨Nat.le_of_ble_eq_true rfl, Nat.le_of_ble_eq_true rfl⟩) ⟨PRE_blind, va_recv hK hP (ci := 3) (q0 := 0) rfl rfl, PRE_ok [0] (by decide) hP (va_D_adr hD rfl) hA hS hK hN hZ⟩ rfl rfl hl.1 rfl (lv_room (Nat.le_of_ble_eq_true rfl)) dX3_takes_1 ⟨Nat.le_of_ble_eq_true rfl, Nat.le_of_ble_eq_true rfl⟩) rfl 1 rfl (by decide) (by decide) (fun H locs hP hS => ?_)
  refine lv_aload_n hx hb dX3_takes_4 rfl (lv_at hl 0 rfl) ?_
  refine va_get (ci := 3) (v := .int (X_po o12)) (C := RX3) (T := TX3) (N := 4) hx hb hts iw_X3_takes_X3 hown hK hP 0 rfl rfl 3 (by decide) (hts (.fieldLink RX3 22 "BallastTrack$Text" "position" "I") (List.mem_of_getElem? (i := 1) rfl)) (fun _ h9 => h9) rfl dX3_takes_5 ?_
  refine lv_topi (fun x13 ex13 => ?_)
  replace hf := nm_i hf ex13
  refine lv_aload_n hx hb dX3_takes_8 rfl (lv_at hl 0 rfl) ?_
  refine va_get (ci := 3) (v := .int (X_ln o12)) (C := RX3) (T := TX3) (N := 4) hx hb hts iw_X3_takes_X3 hown hK hP 0 rfl rfl 1 (by decide) (hts (.fieldLink RX3 15 "BallastTrack$Text" "length" "I") (List.mem_of_getElem? (i := 2) rfl)) (fun _ h9 => h9) rfl dX3_takes_9 ?_
  refine lv_topi (fun x14 ex14 => ?_)
  replace hf := nm_i hf ex14
  refine lv_icmp_ge (tgt := 28) hx hb dX3_takes_12 (by decide) (fun c15 => ?_) (fun c15 => ?_)
  · replace hf := it_t hf c15
    refine lv_iconst (v := 0) hx hb dX3_takes_28 (by decide) ?_
    obtain rfl := Option.some.inj hf
    subst hQ
    exact en_z (v := false) hx hb hr hP hS hlocks dX3_takes_29
  · replace hf := it_f hf c15
    refine lv_aload_n hx hb dX3_takes_15 rfl (lv_at hl 0 rfl) ?_
    refine va_get (ci := 3) (v := .ref (g (b + 1))) (C := RX3) (T := TX3) (N := 4) hx hb hts iw_X3_takes_X3 hown hK hP 0 rfl rfl 0 (by decide) (hts (.fieldLink RX3 9 "BallastTrack$Text" "characters" "[I") (List.mem_of_getElem? (i := 3) rfl)) (fun _ h9 => h9) rfl dX3_takes_16 ?_
    refine lv_aload_n hx hb dX3_takes_19 rfl (lv_at hl 0 rfl) ?_
    refine va_get (ci := 3) (v := .int (X_po o12)) (C := RX3) (T := TX3) (N := 4) hx hb hts iw_X3_takes_X3 hown hK hP 0 rfl rfl 3 (by decide) (hts (.fieldLink RX3 22 "BallastTrack$Text" "position" "I") (List.mem_of_getElem? (i := 1) rfl)) (fun _ h9 => h9) rfl dX3_takes_20 ?_
    refine lv_topi (fun x16 ex16 => ?_)
    replace hf := nm_i hf ex16
    obtain ⟨hi17, hf⟩ := ix_i hf
    refine va_iald hx hb hK hP 1 0 rfl rfl hi17 dX3_takes_23 ?_
    refine lv_topi (fun x18 ex18 => ?_)
    replace hf := nm_i hf ex18
    refine lv_iload_n hx hb dX3_takes_24 rfl (lv_at hl 1 rfl) ?_
    refine lv_icmp_eq (tgt := 30) hx hb dX3_takes_25 (by decide) (fun c19 => ?_) (fun c19 => ?_)
    · replace hf := it_t hf c19
      refine lv_aload_n hx hb dX3_takes_30 rfl (lv_at hl 0 rfl) ?_
      refine lv_dup hx hb dX3_takes_31 rfl ?_
      refine va_get (ci := 3) (v := .int (X_po o12)) (C := RX3) (T := TX3) (N := 4) hx hb hts iw_X3_takes_X3 hown hK hP 0 rfl rfl 3 (by decide) (hts (.fieldLink RX3 22 "BallastTrack$Text" "position" "I") (List.mem_of_getElem? (i := 1) rfl)) (fun _ h9 => h9) rfl dX3_takes_32 ?_
      refine lv_topi (fun x20 ex20 => ?_)
      replace hf := nm_i hf ex20
      refine lv_iconst (v := 1) hx hb dX3_takes_35 (by decide) ?_
      refine lv_iadd hx hb dX3_takes_36 ?_
      refine lv_topi (fun x21 ex21 => ?_)
      replace hf := nm_i hf ex21
      refine va_put (ci := 3) (v := .int x21) (ty := .int) (C := RX3) (T := TX3) (N := 4) hx hb hts iw_X3_takes_X3 tyX3 tyX3_ok nmX3 hown hK hP (va_D_adr hD rfl) hS 0 rfl rfl 3 (by decide) (hts (.fieldLink RX3 22 "BallastTrack$Text" "position" "I") (List.mem_of_getElem? (i := 1) rfl)) (fun _ h9 => h9) rfl (by decide +kernel) rfl rfl (Nat.le_of_ble_eq_true rfl) dX3_takes_37 (fun H locs hP _ hS => ?_)
      obtain ⟨u22, eu22⟩ : ∃ z : TX, z = X_po_ o12 x21 := ⟨_, rfl⟩
      replace hf := nm_i hf eu22
      have hP : va_P D vwCl (List.flatten [wX cT g b u22]) H := by rw [eu22]; exact hP
      refine lv_iconst (v := 1) hx hb dX3_takes_40 (by decide) ?_
      obtain rfl := Option.some.inj hf
      subst hQ
      exact en_z (v := true) hx hb hr hP hS hlocks dX3_takes_41
    · replace hf := it_f hf c19
      refine lv_iconst (v := 0) hx hb dX3_takes_28 (by decide) ?_
      obtain rfl := Option.some.inj hf
      subst hQ
      exact en_z (v := false) hx hb hr hP hS hlocks dX3_takes_29
theorem iw_X3_expects_X3 : ∀ w ∈ u_ws RX3 TX3 4, w ∈ wsX3_expects := by decide +kernel
def f_X3_expects (fu : Nat) (u_tx : TX) (p0 : Int32) : Option (Bool × TX) :=
bd (f_X3_takes fu u_tx p0) fun (o5 : Bool × TX) =>
if bI o5.1 = 0 then (
nm (X_po o5.2) fun (x7 : Int32) =>
bd (f_X3_fail fu o5.2 x7) fun (o8 : Int32 × TX) =>
some (false, o8.2)
)
else (
some (true, o5.2)
)

abbrev rm_X3_expects : Room := { frames := 2, cells := 0, slots := 0, locals := 41 }
set_option maxHeartbeats 4000000 in
set_option maxRecDepth 100000 in
theorem c_X3_expects (l : Launch) (D : va_G) (cT : Nat → ClassId) (g : Nat → Nat) (b : Nat) (fu : Nat) (u_tx : TX) (p0 : Int32) (o : Bool × TX) (hf : f_X3_expects fu u_tx p0 = some o) (sz : Nat) : Met l yX3_expects wsX3_expects rm_X3_expects (va_Pc [.ref (g b), .int p0] (PRE D cT sz (List.flatten [wX cT g b u_tx]))) (QI D (bI o.1) (List.flatten [wX cT g b o.2]) (va_A (List.flatten [wX cT g b u_tx]) sz)) 0 0 (va_A (List.flatten [wX cT g b u_tx]) sz) := by
  refine Met.ofW (cc := cX3_expects) (maxL := 2) (ret := (some .boolean)) (by decide) rfl ?_
  intro p e s m args below meth c s₁ B0 hml hv
  obtain ⟨hav, hsz, hP, hK, hD, hN, hZ⟩ := hv
  have hx := B0.exec
  have hb := B0.bytes
  have hr := B0.returns
  have hts := atoms_spec (ws := wsX3_expects) B0.pre
  have hown : s.vm.findClass RX3 = some m.cls := findClass_of_methodNamed B0.named
  have hlocks := B0.notSynchronized
  subst hsz
  have hD := hD.self (sz := s.heap.size)
  have hA : ∀ q : Nat, s.heap.size ≤ q → va_A (List.flatten [wX cT g b u_tx]) s.heap.size q := fun q h => Or.inr h
  generalize va_A (List.flatten [wX cT g b u_tx]) s.heap.size = A at hD hZ hA ⊢
  have hS : va_S A s.heap s.heap [] := va_S.rf
  have hl := lv_entry ([.ref (g b), .int p0]) (n := 2) (Nat.le_of_ble_eq_true rfl)
  rw [hav]
  rw [lg_entry_eq]
  generalize (lg_sl ([.ref (g b), .int p0]) ++ List.replicate (2 - (lg_sl ([.ref (g b), .int p0])).length) Slot.unset).toArray = ls at hl ⊢
  have hl : lv_has ls 2 [(0, .ref (g b)), (1, .int p0)] := hl
  rw [← hav]
  generalize hQ : MQ below _ _ _ _ _ _ = Q
  show W p l e rm_X3_expects s m args below meth c s.heap [] 0 0 Q (F0 m 0 ls [])
  unfold f_X3_expects at hf
  refine lv_aload_n hx hb dX3_expects_0 rfl (lv_at hl 0 rfl) ?_
  refine lv_iload_n hx hb dX3_expects_1 rfl (lv_at hl 1 rfl) ?_
  obtain ⟨o5, ho5, hf⟩ := bd_i hf
  refine cl_i [0] [] [wX cT g b o5.2] hP (va_D_adr hD rfl) hA hS (va_runV (As := [.int p0]) (rest := []) ⟨hx, hb, hml, hown, hts⟩ (c_X3_takes l D cT g b fu u_tx p0 o5 ho5 _) (cwV 1 hts gX3_expects_X3_takes rfl rfl rfl (by decide +kernel) ⟨Nat.le_of_ble_eq_true rfl, Nat.le_of_ble_eq_true rfl⟩) ⟨PRE_blind, va_recv hK hP (ci := 3) (q0 := 0) rfl rfl, PRE_ok [0] (by decide) hP (va_D_adr hD rfl) hA hS hK hN hZ⟩ rfl rfl hl.1 rfl (lv_room (Nat.le_of_ble_eq_true rfl)) dX3_expects_2 ⟨Nat.le_of_ble_eq_true rfl, Nat.le_of_ble_eq_true rfl⟩) rfl 1 rfl (by decide) (by decide) (fun H locs hP hS => ?_)
  refine lv_if_eq (tgt := 10) hx hb dX3_expects_5 (by decide) (fun c6 => ?_) (fun c6 => ?_)
  · replace hf := it_t hf c6
    refine lv_aload_n hx hb dX3_expects_10 rfl (lv_at hl 0 rfl) ?_
    refine lv_aload_n hx hb dX3_expects_11 rfl (lv_at hl 0 rfl) ?_
    refine va_get (ci := 3) (v := .int (X_po o5.2)) (C := RX3) (T := TX3) (N := 4) hx hb hts iw_X3_expects_X3 hown hK hP 0 rfl rfl 3 (by decide) (hts (.fieldLink RX3 22 "BallastTrack$Text" "position" "I") (List.mem_of_getElem? (i := 1) rfl)) (fun _ h9 => h9) rfl dX3_expects_12 ?_
    refine lv_topi (fun x7 ex7 => ?_)
    replace hf := nm_i hf ex7
    obtain ⟨o8, ho8, hf⟩ := bd_i hf
    refine cl_i [0] [] [wX cT g b o8.2] hP (va_D_adr hD rfl) hA hS (va_runV (As := [.int x7]) (rest := []) ⟨hx, hb, hml, hown, hts⟩ (c_X3_fail l D cT g b fu o5.2 x7 o8 ho8 _) (cwV 1 hts gX3_expects_X3_fail rfl rfl rfl (by decide +kernel) ⟨Nat.le_of_ble_eq_true rfl, Nat.le_of_ble_eq_true rfl⟩) ⟨PRE_blind, va_recv hK hP (ci := 3) (q0 := 0) rfl rfl, PRE_ok [0] (by decide) hP (va_D_adr hD rfl) hA hS hK hN hZ⟩ rfl rfl hl.1 rfl (lv_room (Nat.le_of_ble_eq_true rfl)) dX3_expects_15 ⟨Nat.le_of_ble_eq_true rfl, Nat.le_of_ble_eq_true rfl⟩) rfl 1 rfl (by decide) (by decide) (fun H locs hP hS => ?_)
    refine lv_pop hx hb dX3_expects_18 rfl ?_
    refine lv_iconst (v := 0) hx hb dX3_expects_19 (by decide) ?_
    obtain rfl := Option.some.inj hf
    subst hQ
    exact en_z (v := false) hx hb hr hP hS hlocks dX3_expects_20
  · replace hf := it_f hf c6
    refine lv_iconst (v := 1) hx hb dX3_expects_8 (by decide) ?_
    obtain rfl := Option.some.inj hf
    subst hQ
    exact en_z (v := true) hx hb hr hP hS hlocks dX3_expects_9
theorem iw_X3_put_X1 : ∀ w ∈ u_ws RX1 TX1 9, w ∈ wsX3_put := by decide +kernel
def lb_X3_put_3 (fu : Nat) (p1 : Bool) (p3 : Int32) (p4 : Int32) (rec : Int32 → TS → Option (TS)) (v32 : Int32) (u33 : TS) : Option (TS) :=
if p3 < v32 then (
some (u33)
)
else (
jn (fun (u41 : TS) =>
nm (v32 + (1 : Int32)) fun (x44 : Int32) =>
rec x44 u41
) fun K33_43 =>
if bI p1 = 0 then (
ix v32 60 <|
nm (S_fo_ u33 (upd (S_fo u33) v32.toNatClampNeg p4)) fun (u47 : TS) =>
K33_43 u47
)
else (
bd (f_X1_putLevel fu u33 v32 p4) fun (o48 : TS) =>
K33_43 o48
)
)

def lf_X3_put_3 (fu : Nat) (p1 : Bool) (p3 : Int32) (p4 : Int32) : Nat → Int32 → TS → Option (TS) := lq_2 (lb_X3_put_3 fu p1 p3 p4)
def f_X3_put (fu : Nat) (u_st : TS) (p1 : Bool) (p2 : Int32) (p3 : Int32) (p4 : Int32) : Option (TS) :=
bd (lf_X3_put_3 fu p1 p3 p4 fu p2 u_st) fun (z35 : TS) =>
some (z35)

abbrev rm_X3_put : Room := { frames := 1, cells := 0, slots := 0, locals := 22 }
set_option maxHeartbeats 4000000 in
set_option maxRecDepth 100000 in
theorem c_X3_put (l : Launch) (D : va_G) (cT : Nat → ClassId) (g : Nat → Nat) (b : Nat) (fu : Nat) (u_st : TS) (p1 : Bool) (p2 : Int32) (p3 : Int32) (p4 : Int32) (o : TS) (hf : f_X3_put fu u_st p1 p2 p3 p4 = some o) (sz : Nat) : Met l yX3_put wsX3_put rm_X3_put (va_Pc [.ref (g b), .int (bI p1), .int p2, .int p3, .int p4] (PRE D cT sz (List.flatten [wS cT g b u_st]))) (QV D (List.flatten [wS cT g b o]) (va_A (List.flatten [wS cT g b u_st]) sz)) 0 0 (va_A (List.flatten [wS cT g b u_st]) sz) := by
  refine Met.ofW (cc := cX3_put) (maxL := 6) (ret := none) (by decide) rfl ?_
  intro p e s m args below meth c s₁ B0 hml hv
  obtain ⟨hav, hsz, hP, hK, hD, hN, hZ⟩ := hv
  have hx := B0.exec
  have hb := B0.bytes
  have hr := B0.returns
  have hts := atoms_spec (ws := wsX3_put) B0.pre
  have hown : s.vm.findClass RX3 = some m.cls := findClass_of_methodNamed B0.named
  have hlocks := B0.notSynchronized
  subst hsz
  have hD := hD.self (sz := s.heap.size)
  have hA : ∀ q : Nat, s.heap.size ≤ q → va_A (List.flatten [wS cT g b u_st]) s.heap.size q := fun q h => Or.inr h
  generalize va_A (List.flatten [wS cT g b u_st]) s.heap.size = A at hD hZ hA ⊢
  have hS : va_S A s.heap s.heap [] := va_S.rf
  have hl := lv_entry ([.ref (g b), .int (bI p1), .int p2, .int p3, .int p4]) (n := 6) (Nat.le_of_ble_eq_true rfl)
  rw [hav]
  rw [lg_entry_eq]
  generalize (lg_sl ([.ref (g b), .int (bI p1), .int p2, .int p3, .int p4]) ++ List.replicate (6 - (lg_sl ([.ref (g b), .int (bI p1), .int p2, .int p3, .int p4])).length) Slot.unset).toArray = ls at hl ⊢
  have hl : lv_has ls 6 [(0, .ref (g b)), (1, .int (bI p1)), (2, .int p2), (3, .int p3), (4, .int p4)] := hl
  rw [← hav]
  generalize hQ : MQ below _ _ _ _ _ _ = Q
  show W p l e rm_X3_put s m args below meth c s.heap [] 0 0 Q (F0 m 0 ls [])
  unfold f_X3_put at hf
  refine lv_iload_n hx hb dX3_put_0 rfl (lv_at hl 2 rfl) ?_
  refine lv_istore (lv' := [(5, .int p2), (0, .ref (g b)), (1, .int (bI p1)), (2, .int p2), (3, .int p3), (4, .int p4)]) hx hb dX3_put_1 hl (by decide) rfl (fun ls hl => ?_)
  obtain ⟨z35, hz35, hf⟩ := bd_i hf
  have hL3 : ∀ (n : Nat) (v32 : Int32) (u33 : TS) (z34 : TS), lf_X3_put_3 fu p1 p3 p4 n v32 u33 = some z34 → ∀ (H : Heap) (locs : List Loc) (ls : Array Slot), va_P D vwCl (List.flatten [wS cT g b u33]) H → va_S A s.heap H locs → lv_has ls 6 [(0, .ref (g b)), (1, .int (bI p1)), (3, .int p3), (4, .int p4), (5, .int v32)] → (∀ (H : Heap) (locs : List Loc) (ls : Array Slot), va_P D vwCl (List.flatten [wS cT g b z34]) H → va_S A s.heap H locs → lv_has ls 6 [] → W p l e rm_X3_put s m args below meth c H locs 0 0 Q (F0 m 39 ls [])) → W p l e rm_X3_put s m args below meth c H locs 0 0 Q (F0 m 3 ls []) := by
    refine lq_2_ind (F := lb_X3_put_3 fu p1 p3 p4) (fun rec ih v32 u33 z34 hf H locs ls hP hS hl kx => ?_)
    unfold lb_X3_put_3 at hf
    refine lv_iload hx hb dX3_put_3 (lv_at hl 4 rfl) ?_
    refine lv_iload_n hx hb dX3_put_5 rfl (lv_at hl 2 rfl) ?_
    refine lv_icmp_gt (tgt := 39) hx hb dX3_put_6 (by decide) (fun c36 => ?_) (fun c36 => ?_)
    · replace hf := it_t hf c36
      obtain rfl := Option.some.inj hf
      exact kx _ _ _ hP hS (lv_sub hl [] rfl)
    · replace hf := it_f hf c36
      refine lv_iload_n hx hb dX3_put_9 rfl (lv_at hl 1 rfl) ?_
      obtain ⟨K33_43, eK33_43, hf⟩ := jn_i hf
      have hK33_43 : ∀ (u41 : TS) (H : Heap) (locs : List Loc) (ls : Array Slot), K33_43 u41 = some z34 → va_P D vwCl (List.flatten [wS cT g b u41]) H → va_S A s.heap H locs → lv_has ls 6 [(0, .ref (g b)), (1, .int (bI p1)), (3, .int p3), (4, .int p4), (5, .int v32)] → W p l e rm_X3_put s m args below meth c H locs 0 0 Q (F0 m 33 ls []) := by
        intro u41 H locs ls hf hP hS hl
        rw [eK33_43] at hf
        obtain ⟨x44, ex44⟩ : ∃ z : Int32, z = v32 + (1 : Int32) := ⟨_, rfl⟩
        replace hf := nm_i hf ex44
        refine lv_iinc (v := x44) (lv' := [(5, .int x44), (0, .ref (g b)), (1, .int (bI p1)), (3, .int p3), (4, .int p4)]) hx hb dX3_put_33 hl (k := 4) rfl (by rw [ex44]; rfl) (by decide) rfl (fun ls hl => ?_)
        refine lv_goto (tgt := 3) hx hb dX3_put_36 (by decide) ?_
        exact ih _ _ _ hf _ _ _ hP hS (lv_sub hl [1, 2, 3, 4, 0] rfl) kx
      clear eK33_43
      refine lv_if_eq (tgt := 24) hx hb dX3_put_10 (by decide) (fun c45 => ?_) (fun c45 => ?_)
      · replace hf := it_t hf c45
        refine lv_aload_n hx hb dX3_put_24 rfl (lv_at hl 0 rfl) ?_
        refine va_get (ci := 1) (v := .ref (g (b + 3))) (C := RX1) (T := TX1) (N := 9) hx hb hts iw_X3_put_X1 hown hK hP 0 rfl rfl 4 (by decide) (hts (.fieldLink RX3 56 "BallastTrack$State" "foulings" "[I") (List.mem_of_getElem? (i := 1) rfl)) (fun _ h9 => h9) rfl dX3_put_25 ?_
        refine lv_iload hx hb dX3_put_28 (lv_at hl 4 rfl) ?_
        refine lv_iload hx hb dX3_put_30 (lv_at hl 3 rfl) ?_
        obtain ⟨hi46, hf⟩ := ix_i hf
        refine va_iast hx hb hK hP (va_D_adr hD rfl) hS 3 0 rfl rfl hi46 dX3_put_32 (fun H locs hP _ hS => ?_)
        obtain ⟨u47, eu47⟩ : ∃ z : TS, z = S_fo_ u33 (upd (S_fo u33) v32.toNatClampNeg p4) := ⟨_, rfl⟩
        replace hf := nm_i hf eu47
        have hP : va_P D vwCl (List.flatten [wS cT g b u47]) H := by rw [eu47]; exact hP
        exact hK33_43 _ _ _ _ hf hP hS (lv_sub hl [0, 1, 2, 3, 4] rfl)
      · replace hf := it_f hf c45
        refine lv_aload_n hx hb dX3_put_13 rfl (lv_at hl 0 rfl) ?_
        refine lv_iload hx hb dX3_put_14 (lv_at hl 4 rfl) ?_
        refine lv_iload hx hb dX3_put_16 (lv_at hl 3 rfl) ?_
        obtain ⟨o48, ho48, hf⟩ := bd_i hf
        refine cl_v [0] [] [wS cT g b o48] hP (va_D_adr hD rfl) hA hS (va_runV (As := [.int v32, .int p4]) (rest := []) ⟨hx, hb, hml, hown, hts⟩ (c_X1_putLevel l D cT g b fu u33 v32 p4 o48 ho48 _) (cwV 2 hts gX3_put_X1_putLevel rfl rfl rfl (by decide +kernel) ⟨Nat.le_of_ble_eq_true rfl, Nat.le_of_ble_eq_true rfl⟩) ⟨PRE_blind, va_recv hK hP (ci := 1) (q0 := 0) rfl rfl, PRE_ok [0] (by decide) hP (va_D_adr hD rfl) hA hS hK hN hZ⟩ rfl rfl hl.1 rfl (lv_room (Nat.le_of_ble_eq_true rfl)) dX3_put_18 ⟨Nat.le_of_ble_eq_true rfl, Nat.le_of_ble_eq_true rfl⟩) rfl 1 rfl (by decide) (by decide) (fun H locs hP hS => ?_)
        refine lv_goto (tgt := 33) hx hb dX3_put_21 (by decide) ?_
        exact hK33_43 _ _ _ _ hf hP hS (lv_sub hl [0, 1, 2, 3, 4] rfl)
  refine hL3 fu _ _ _ hz35 _ _ _ hP hS (lv_sub hl [1, 2, 4, 5, 0] rfl) (fun H locs ls hP hS hl => ?_)
  obtain rfl := Option.some.inj hf
  subst hQ
  exact en_v hx hb hr hP hS hlocks dX3_put_39
def f_X3_isDigit (fu : Nat)  (p0 : Int32) : Option (Bool) :=
bd (f_X4_isWithin fu  p0 ((48 : Int32)) ((57 : Int32))) fun (o2 : Bool) =>
some (o2)

abbrev rm_X3_isDigit : Room := { frames := 1, cells := 0, slots := 0, locals := 22 }
set_option maxHeartbeats 4000000 in
set_option maxRecDepth 100000 in
theorem c_X3_isDigit (l : Launch) (D : va_G) (cT : Nat → ClassId) (g : Nat → Nat) (fu : Nat)  (p0 : Int32) (o : Bool) (hf : f_X3_isDigit fu  p0 = some o) (sz : Nat) : Met l yX3_isDigit wsX3_isDigit rm_X3_isDigit (va_Pc [.int p0] (PRE D cT sz (List.flatten []))) (QI D (bI o) (List.flatten []) (va_A (List.flatten []) sz)) 0 0 (va_A (List.flatten []) sz) := by
  refine Met.ofW (cc := cX3_isDigit) (maxL := 1) (ret := (some .boolean)) (by decide) rfl ?_
  intro p e s m args below meth c s₁ B0 hml hv
  obtain ⟨hav, hsz, hP, hK, hD, hN, hZ⟩ := hv
  have hx := B0.exec
  have hb := B0.bytes
  have hr := B0.returns
  have hts := atoms_spec (ws := wsX3_isDigit) B0.pre
  have hown : s.vm.findClass RX3 = some m.cls := findClass_of_methodNamed B0.named
  have hlocks := B0.notSynchronized
  subst hsz
  have hD := hD.self (sz := s.heap.size)
  have hA : ∀ q : Nat, s.heap.size ≤ q → va_A (List.flatten []) s.heap.size q := fun q h => Or.inr h
  generalize va_A (List.flatten []) s.heap.size = A at hD hZ hA ⊢
  have hS : va_S A s.heap s.heap [] := va_S.rf
  have hl := lv_entry ([.int p0]) (n := 1) (Nat.le_of_ble_eq_true rfl)
  rw [hav]
  rw [lg_entry_eq]
  generalize (lg_sl ([.int p0]) ++ List.replicate (1 - (lg_sl ([.int p0])).length) Slot.unset).toArray = ls at hl ⊢
  have hl : lv_has ls 1 [(0, .int p0)] := hl
  rw [← hav]
  generalize hQ : MQ below _ _ _ _ _ _ = Q
  show W p l e rm_X3_isDigit s m args below meth c s.heap [] 0 0 Q (F0 m 0 ls [])
  unfold f_X3_isDigit at hf
  refine lv_iload_n hx hb dX3_isDigit_0 rfl (lv_at hl 0 rfl) ?_
  refine lv_bipush (v := 48) hx hb dX3_isDigit_1 (by decide) ?_
  refine lv_bipush (v := 57) hx hb dX3_isDigit_3 (by decide) ?_
  obtain ⟨o2, ho2, hf⟩ := bd_i hf
  refine cl_i [] [] [] hP (va_D_adr hD rfl) hA hS (va_runSN (As := [.int p0, .int ((48 : Int32)), .int ((57 : Int32))]) (rest := []) ⟨hx, hb, hml, hown, hts⟩ (c_X4_isWithin l D cT g  fu  p0 ((48 : Int32)) ((57 : Int32)) o2 ho2 _) ⟨va_cnB 3 hts gX3_isDigit_X4_isWithin_n67 rfl rfl rfl hN.2.2.1 (hts (.initialized RX4) (List.mem_of_getElem? (i := 2) rfl)) (by decide +kernel) ⟨Nat.le_of_ble_eq_true rfl, Nat.le_of_ble_eq_true rfl⟩, (hts (.static yX4_isWithin) (List.mem_of_getElem? (i := 1) rfl)), trivial⟩ ⟨PRE_blind, PRE_ok [] (by decide) hP (va_D_adr hD rfl) hA hS hK hN hZ⟩ rfl rfl hl.1 rfl (lv_room (Nat.le_of_ble_eq_true rfl)) dX3_isDigit_5 ⟨Nat.le_of_ble_eq_true rfl, Nat.le_of_ble_eq_true rfl⟩) rfl 0 rfl (by decide) (by decide) (fun H locs hP hS => ?_)
  obtain rfl := Option.some.inj hf
  subst hQ
  exact en_z hx hb hr hP hS hlocks dX3_isDigit_8
theorem iw_X3_readNumber_X3 : ∀ w ∈ u_ws RX3 TX3 4, w ∈ wsX3_readNumber := by decide +kernel
def lb_X3_readNumber_13 (fu : Nat) (p0 : Int32) (x50 : Int32) (rec : Int32 → TX → Option (Int32 × TX)) (v73 : Int32) (u74 : TX) : Option (Int32 × TX) :=
nm (X_po u74) fun (x77 : Int32) =>
nm (X_ln u74) fun (x78 : Int32) =>
if x78 ≤ x77 then (
some (v73, u74)
)
else (
nm (X_po u74) fun (x80 : Int32) =>
nm (x50 + p0) fun (x81 : Int32) =>
if x81 ≤ x80 then (
some (v73, u74)
)
else (
nm (X_po u74) fun (x83 : Int32) =>
ix x83 100 <|
nm ((X_ch u74) x83.toNatClampNeg) fun (x85 : Int32) =>
bd (f_X3_isDigit fu  x85) fun (o86 : Bool) =>
if bI o86 = 0 then (
some (v73, u74)
)
else (
nm (v73 * (10 : Int32)) fun (x88 : Int32) =>
nm (X_po u74) fun (x89 : Int32) =>
ix x89 100 <|
nm ((X_ch u74) x89.toNatClampNeg) fun (x91 : Int32) =>
nm (x88 + x91) fun (x92 : Int32) =>
nm (x92 - (48 : Int32)) fun (x93 : Int32) =>
nm (X_po u74) fun (x94 : Int32) =>
nm (x94 + (1 : Int32)) fun (x95 : Int32) =>
nm (X_po_ u74 x95) fun (u96 : TX) =>
rec x93 u96
)
)
)

def lf_X3_readNumber_13 (fu : Nat) (p0 : Int32) (x50 : Int32) : Nat → Int32 → TX → Option (Int32 × TX) := lq_2 (lb_X3_readNumber_13 fu p0 x50)
def f_X3_readNumber (fu : Nat) (u_tx : TX) (p0 : Int32) (p1 : Int32) (p2 : Int32) : Option (Int32 × TX) :=
bd (f_X3_skipSpaces fu u_tx ) fun (o49 : TX) =>
nm (X_po o49) fun (x50 : Int32) =>
bd (lf_X3_readNumber_13 fu p0 x50 fu ((0 : Int32)) o49) fun (z76 : Int32 × TX) =>
nm (X_po z76.2) fun (x97 : Int32) =>
if ¬ x97 = x50 then (
nm (X_po z76.2) fun (x99 : Int32) =>
nm (x50 + (1 : Int32)) fun (x100 : Int32) =>
jn (bd (f_X4_isWithin fu  z76.1 p1 p2) fun (o110 : Bool) =>
if ¬ bI o110 = 0 then (
some (z76.1, z76.2)
)
else (
bd (f_X3_fail fu z76.2 x50) fun (o112 : Int32 × TX) =>
some (o112.1, o112.2)
)
) fun K122_109 =>
if x99 ≤ x100 then (
K122_109 
)
else (
ix x50 100 <|
nm ((X_ch z76.2) x50.toNatClampNeg) fun (x115 : Int32) =>
if x115 = (48 : Int32) then (
bd (f_X3_fail fu z76.2 x50) fun (o117 : Int32 × TX) =>
some (o117.1, o117.2)
)
else (
K122_109 
)
)
)
else (
bd (f_X3_fail fu z76.2 x50) fun (o118 : Int32 × TX) =>
some (o118.1, o118.2)
)

abbrev rm_X3_readNumber : Room := { frames := 2, cells := 0, slots := 0, locals := 42 }
set_option maxHeartbeats 4000000 in
set_option maxRecDepth 100000 in
theorem c_X3_readNumber (l : Launch) (D : va_G) (cT : Nat → ClassId) (g : Nat → Nat) (b : Nat) (fu : Nat) (u_tx : TX) (p0 : Int32) (p1 : Int32) (p2 : Int32) (o : Int32 × TX) (hf : f_X3_readNumber fu u_tx p0 p1 p2 = some o) (sz : Nat) : Met l yX3_readNumber wsX3_readNumber rm_X3_readNumber (va_Pc [.ref (g b), .int p0, .int p1, .int p2] (PRE D cT sz (List.flatten [wX cT g b u_tx]))) (QI D o.1 (List.flatten [wX cT g b o.2]) (va_A (List.flatten [wX cT g b u_tx]) sz)) 0 0 (va_A (List.flatten [wX cT g b u_tx]) sz) := by
  refine Met.ofW (cc := cX3_readNumber) (maxL := 6) (ret := (some .int)) (by decide) rfl ?_
  intro p e s m args below meth c s₁ B0 hml hv
  obtain ⟨hav, hsz, hP, hK, hD, hN, hZ⟩ := hv
  have hx := B0.exec
  have hb := B0.bytes
  have hr := B0.returns
  have hts := atoms_spec (ws := wsX3_readNumber) B0.pre
  have hown : s.vm.findClass RX3 = some m.cls := findClass_of_methodNamed B0.named
  have hlocks := B0.notSynchronized
  subst hsz
  have hD := hD.self (sz := s.heap.size)
  have hA : ∀ q : Nat, s.heap.size ≤ q → va_A (List.flatten [wX cT g b u_tx]) s.heap.size q := fun q h => Or.inr h
  generalize va_A (List.flatten [wX cT g b u_tx]) s.heap.size = A at hD hZ hA ⊢
  have hS : va_S A s.heap s.heap [] := va_S.rf
  have hl := lv_entry ([.ref (g b), .int p0, .int p1, .int p2]) (n := 6) (Nat.le_of_ble_eq_true rfl)
  rw [hav]
  rw [lg_entry_eq]
  generalize (lg_sl ([.ref (g b), .int p0, .int p1, .int p2]) ++ List.replicate (6 - (lg_sl ([.ref (g b), .int p0, .int p1, .int p2])).length) Slot.unset).toArray = ls at hl ⊢
  have hl : lv_has ls 6 [(0, .ref (g b)), (1, .int p0), (2, .int p1), (3, .int p2)] := hl
  rw [← hav]
  generalize hQ : MQ below _ _ _ _ _ _ = Q
  show W p l e rm_X3_readNumber s m args below meth c s.heap [] 0 0 Q (F0 m 0 ls [])
  unfold f_X3_readNumber at hf
  refine lv_aload_n hx hb dX3_readNumber_0 rfl (lv_at hl 0 rfl) ?_
  obtain ⟨o49, ho49, hf⟩ := bd_i hf
  refine cl_v [0] [] [wX cT g b o49] hP (va_D_adr hD rfl) hA hS (va_runV (As := []) (rest := []) ⟨hx, hb, hml, hown, hts⟩ (c_X3_skipSpaces l D cT g b fu u_tx  o49 ho49 _) (cwV 0 hts gX3_readNumber_X3_skipSpaces rfl rfl rfl (by decide +kernel) ⟨Nat.le_of_ble_eq_true rfl, Nat.le_of_ble_eq_true rfl⟩) ⟨PRE_blind, va_recv hK hP (ci := 3) (q0 := 0) rfl rfl, PRE_ok [0] (by decide) hP (va_D_adr hD rfl) hA hS hK hN hZ⟩ rfl rfl hl.1 rfl (lv_room (Nat.le_of_ble_eq_true rfl)) dX3_readNumber_1 ⟨Nat.le_of_ble_eq_true rfl, Nat.le_of_ble_eq_true rfl⟩) rfl 1 rfl (by decide) (by decide) (fun H locs hP hS => ?_)
  refine lv_aload_n hx hb dX3_readNumber_4 rfl (lv_at hl 0 rfl) ?_
  refine va_get (ci := 3) (v := .int (X_po o49)) (C := RX3) (T := TX3) (N := 4) hx hb hts iw_X3_readNumber_X3 hown hK hP 0 rfl rfl 3 (by decide) (hts (.fieldLink RX3 22 "BallastTrack$Text" "position" "I") (List.mem_of_getElem? (i := 1) rfl)) (fun _ h9 => h9) rfl dX3_readNumber_5 ?_
  refine lv_topi (fun x50 ex50 => ?_)
  replace hf := nm_i hf ex50
  refine lv_istore (lv' := [(4, .int x50), (0, .ref (g b)), (1, .int p0), (2, .int p1), (3, .int p2)]) hx hb dX3_readNumber_8 hl (by decide) rfl (fun ls hl => ?_)
  refine lv_iconst (v := 0) hx hb dX3_readNumber_10 (by decide) ?_
  refine lv_istore (lv' := [(5, .int ((0 : Int32))), (4, .int x50), (0, .ref (g b)), (1, .int p0), (2, .int p1), (3, .int p2)]) hx hb dX3_readNumber_11 hl (by decide) rfl (fun ls hl => ?_)
  obtain ⟨z76, hz76, hf⟩ := bd_i hf
  have hL13 : ∀ (n : Nat) (v73 : Int32) (u74 : TX) (z75 : Int32 × TX), lf_X3_readNumber_13 fu p0 x50 n v73 u74 = some z75 → ∀ (H : Heap) (locs : List Loc) (ls : Array Slot), va_P D vwCl (List.flatten [wX cT g b u74]) H → va_S A s.heap H locs → lv_has ls 6 [(0, .ref (g b)), (1, .int p0), (2, .int p1), (3, .int p2), (4, .int x50), (5, .int v73)] → (∀ (H : Heap) (locs : List Loc) (ls : Array Slot), va_P D vwCl (List.flatten [wX cT g b z75.2]) H → va_S A s.heap H locs → lv_has ls 6 [(0, .ref (g b)), (2, .int p1), (3, .int p2), (4, .int x50), (5, .int z75.1)] → W p l e rm_X3_readNumber s m args below meth c H locs 0 0 Q (F0 m 83 ls [])) → W p l e rm_X3_readNumber s m args below meth c H locs 0 0 Q (F0 m 13 ls []) := by
    refine lq_2_ind (F := lb_X3_readNumber_13 fu p0 x50) (fun rec ih v73 u74 z75 hf H locs ls hP hS hl kx => ?_)
    unfold lb_X3_readNumber_13 at hf
    refine lv_aload_n hx hb dX3_readNumber_13 rfl (lv_at hl 0 rfl) ?_
    refine va_get (ci := 3) (v := .int (X_po u74)) (C := RX3) (T := TX3) (N := 4) hx hb hts iw_X3_readNumber_X3 hown hK hP 0 rfl rfl 3 (by decide) (hts (.fieldLink RX3 22 "BallastTrack$Text" "position" "I") (List.mem_of_getElem? (i := 1) rfl)) (fun _ h9 => h9) rfl dX3_readNumber_14 ?_
    refine lv_topi (fun x77 ex77 => ?_)
    replace hf := nm_i hf ex77
    refine lv_aload_n hx hb dX3_readNumber_17 rfl (lv_at hl 0 rfl) ?_
    refine va_get (ci := 3) (v := .int (X_ln u74)) (C := RX3) (T := TX3) (N := 4) hx hb hts iw_X3_readNumber_X3 hown hK hP 0 rfl rfl 1 (by decide) (hts (.fieldLink RX3 15 "BallastTrack$Text" "length" "I") (List.mem_of_getElem? (i := 2) rfl)) (fun _ h9 => h9) rfl dX3_readNumber_18 ?_
    refine lv_topi (fun x78 ex78 => ?_)
    replace hf := nm_i hf ex78
    refine lv_icmp_ge (tgt := 83) hx hb dX3_readNumber_21 (by decide) (fun c79 => ?_) (fun c79 => ?_)
    · replace hf := it_t hf c79
      obtain rfl := Option.some.inj hf
      exact kx _ _ _ hP hS (lv_sub hl [0, 2, 3, 4, 5] rfl)
    · replace hf := it_f hf c79
      refine lv_aload_n hx hb dX3_readNumber_24 rfl (lv_at hl 0 rfl) ?_
      refine va_get (ci := 3) (v := .int (X_po u74)) (C := RX3) (T := TX3) (N := 4) hx hb hts iw_X3_readNumber_X3 hown hK hP 0 rfl rfl 3 (by decide) (hts (.fieldLink RX3 22 "BallastTrack$Text" "position" "I") (List.mem_of_getElem? (i := 1) rfl)) (fun _ h9 => h9) rfl dX3_readNumber_25 ?_
      refine lv_topi (fun x80 ex80 => ?_)
      replace hf := nm_i hf ex80
      refine lv_iload hx hb dX3_readNumber_28 (lv_at hl 4 rfl) ?_
      refine lv_iload_n hx hb dX3_readNumber_30 rfl (lv_at hl 1 rfl) ?_
      refine lv_iadd hx hb dX3_readNumber_31 ?_
      refine lv_topi (fun x81 ex81 => ?_)
      replace hf := nm_i hf ex81
      refine lv_icmp_ge (tgt := 83) hx hb dX3_readNumber_32 (by decide) (fun c82 => ?_) (fun c82 => ?_)
      · replace hf := it_t hf c82
        obtain rfl := Option.some.inj hf
        exact kx _ _ _ hP hS (lv_sub hl [0, 2, 3, 4, 5] rfl)
      · replace hf := it_f hf c82
        refine lv_aload_n hx hb dX3_readNumber_35 rfl (lv_at hl 0 rfl) ?_
        refine va_get (ci := 3) (v := .ref (g (b + 1))) (C := RX3) (T := TX3) (N := 4) hx hb hts iw_X3_readNumber_X3 hown hK hP 0 rfl rfl 0 (by decide) (hts (.fieldLink RX3 9 "BallastTrack$Text" "characters" "[I") (List.mem_of_getElem? (i := 3) rfl)) (fun _ h9 => h9) rfl dX3_readNumber_36 ?_
        refine lv_aload_n hx hb dX3_readNumber_39 rfl (lv_at hl 0 rfl) ?_
        refine va_get (ci := 3) (v := .int (X_po u74)) (C := RX3) (T := TX3) (N := 4) hx hb hts iw_X3_readNumber_X3 hown hK hP 0 rfl rfl 3 (by decide) (hts (.fieldLink RX3 22 "BallastTrack$Text" "position" "I") (List.mem_of_getElem? (i := 1) rfl)) (fun _ h9 => h9) rfl dX3_readNumber_40 ?_
        refine lv_topi (fun x83 ex83 => ?_)
        replace hf := nm_i hf ex83
        obtain ⟨hi84, hf⟩ := ix_i hf
        refine va_iald hx hb hK hP 1 0 rfl rfl hi84 dX3_readNumber_43 ?_
        refine lv_topi (fun x85 ex85 => ?_)
        replace hf := nm_i hf ex85
        obtain ⟨o86, ho86, hf⟩ := bd_i hf
        refine cl_i [] [0] [wX cT g b u74] hP (va_D_adr hD rfl) hA hS (va_runS (As := [.int x85]) (rest := []) ⟨hx, hb, hml, hown, hts⟩ (c_X3_isDigit l D cT g  fu  x85 o86 ho86 _) (va_cwS 1 hts gX3_readNumber_X3_isDigit rfl rfl rfl (by decide +kernel) ⟨Nat.le_of_ble_eq_true rfl, Nat.le_of_ble_eq_true rfl⟩) ⟨PRE_blind, PRE_ok [] (by decide) hP (va_D_adr hD rfl) hA hS hK hN hZ⟩ rfl rfl hl.1 rfl (lv_room (Nat.le_of_ble_eq_true rfl)) dX3_readNumber_44 ⟨Nat.le_of_ble_eq_true rfl, Nat.le_of_ble_eq_true rfl⟩) rfl 1 rfl (by decide) (by decide) (fun H locs hP hS => ?_)
        refine lv_if_eq (tgt := 83) hx hb dX3_readNumber_47 (by decide) (fun c87 => ?_) (fun c87 => ?_)
        · replace hf := it_t hf c87
          obtain rfl := Option.some.inj hf
          exact kx _ _ _ hP hS (lv_sub hl [0, 2, 3, 4, 5] rfl)
        · replace hf := it_f hf c87
          refine lv_iload hx hb dX3_readNumber_50 (lv_at hl 5 rfl) ?_
          refine lv_bipush (v := 10) hx hb dX3_readNumber_52 (by decide) ?_
          refine lv_imul hx hb dX3_readNumber_54 ?_
          refine lv_topi (fun x88 ex88 => ?_)
          replace hf := nm_i hf ex88
          refine lv_aload_n hx hb dX3_readNumber_55 rfl (lv_at hl 0 rfl) ?_
          refine va_get (ci := 3) (v := .ref (g (b + 1))) (C := RX3) (T := TX3) (N := 4) hx hb hts iw_X3_readNumber_X3 hown hK hP 0 rfl rfl 0 (by decide) (hts (.fieldLink RX3 9 "BallastTrack$Text" "characters" "[I") (List.mem_of_getElem? (i := 3) rfl)) (fun _ h9 => h9) rfl dX3_readNumber_56 ?_
          refine lv_aload_n hx hb dX3_readNumber_59 rfl (lv_at hl 0 rfl) ?_
          refine va_get (ci := 3) (v := .int (X_po u74)) (C := RX3) (T := TX3) (N := 4) hx hb hts iw_X3_readNumber_X3 hown hK hP 0 rfl rfl 3 (by decide) (hts (.fieldLink RX3 22 "BallastTrack$Text" "position" "I") (List.mem_of_getElem? (i := 1) rfl)) (fun _ h9 => h9) rfl dX3_readNumber_60 ?_
          refine lv_topi (fun x89 ex89 => ?_)
          replace hf := nm_i hf ex89
          obtain ⟨hi90, hf⟩ := ix_i hf
          refine va_iald hx hb hK hP 1 0 rfl rfl hi90 dX3_readNumber_63 ?_
          refine lv_topi (fun x91 ex91 => ?_)
          replace hf := nm_i hf ex91
          refine lv_iadd hx hb dX3_readNumber_64 ?_
          refine lv_topi (fun x92 ex92 => ?_)
          replace hf := nm_i hf ex92
          refine lv_bipush (v := 48) hx hb dX3_readNumber_65 (by decide) ?_
          refine lv_isub hx hb dX3_readNumber_67 ?_
          refine lv_topi (fun x93 ex93 => ?_)
          replace hf := nm_i hf ex93
          refine lv_istore (lv' := [(5, .int x93), (0, .ref (g b)), (1, .int p0), (2, .int p1), (3, .int p2), (4, .int x50)]) hx hb dX3_readNumber_68 hl (by decide) rfl (fun ls hl => ?_)
          refine lv_aload_n hx hb dX3_readNumber_70 rfl (lv_at hl 1 rfl) ?_
          refine lv_dup hx hb dX3_readNumber_71 rfl ?_
          refine va_get (ci := 3) (v := .int (X_po u74)) (C := RX3) (T := TX3) (N := 4) hx hb hts iw_X3_readNumber_X3 hown hK hP 0 rfl rfl 3 (by decide) (hts (.fieldLink RX3 22 "BallastTrack$Text" "position" "I") (List.mem_of_getElem? (i := 1) rfl)) (fun _ h9 => h9) rfl dX3_readNumber_72 ?_
          refine lv_topi (fun x94 ex94 => ?_)
          replace hf := nm_i hf ex94
          refine lv_iconst (v := 1) hx hb dX3_readNumber_75 (by decide) ?_
          refine lv_iadd hx hb dX3_readNumber_76 ?_
          refine lv_topi (fun x95 ex95 => ?_)
          replace hf := nm_i hf ex95
          refine va_put (ci := 3) (v := .int x95) (ty := .int) (C := RX3) (T := TX3) (N := 4) hx hb hts iw_X3_readNumber_X3 tyX3 tyX3_ok nmX3 hown hK hP (va_D_adr hD rfl) hS 0 rfl rfl 3 (by decide) (hts (.fieldLink RX3 22 "BallastTrack$Text" "position" "I") (List.mem_of_getElem? (i := 1) rfl)) (fun _ h9 => h9) rfl (by decide +kernel) rfl rfl (Nat.le_of_ble_eq_true rfl) dX3_readNumber_77 (fun H locs hP _ hS => ?_)
          obtain ⟨u96, eu96⟩ : ∃ z : TX, z = X_po_ u74 x95 := ⟨_, rfl⟩
          replace hf := nm_i hf eu96
          have hP : va_P D vwCl (List.flatten [wX cT g b u96]) H := by rw [eu96]; exact hP
          refine lv_goto (tgt := 13) hx hb dX3_readNumber_80 (by decide) ?_
          exact ih _ _ _ hf _ _ _ hP hS (lv_sub hl [1, 2, 3, 4, 5, 0] rfl) kx
  refine hL13 fu _ _ _ hz76 _ _ _ hP hS (lv_sub hl [2, 3, 4, 5, 1, 0] rfl) (fun H locs ls hP hS hl => ?_)
  refine lv_aload_n hx hb dX3_readNumber_83 rfl (lv_at hl 0 rfl) ?_
  refine va_get (ci := 3) (v := .int (X_po z76.2)) (C := RX3) (T := TX3) (N := 4) hx hb hts iw_X3_readNumber_X3 hown hK hP 0 rfl rfl 3 (by decide) (hts (.fieldLink RX3 22 "BallastTrack$Text" "position" "I") (List.mem_of_getElem? (i := 1) rfl)) (fun _ h9 => h9) rfl dX3_readNumber_84 ?_
  refine lv_topi (fun x97 ex97 => ?_)
  replace hf := nm_i hf ex97
  refine lv_iload hx hb dX3_readNumber_87 (lv_at hl 3 rfl) ?_
  refine lv_icmp_ne (tgt := 99) hx hb dX3_readNumber_89 (by decide) (fun c98 => ?_) (fun c98 => ?_)
  · replace hf := it_t hf c98
    refine lv_aload_n hx hb dX3_readNumber_99 rfl (lv_at hl 0 rfl) ?_
    refine va_get (ci := 3) (v := .int (X_po z76.2)) (C := RX3) (T := TX3) (N := 4) hx hb hts iw_X3_readNumber_X3 hown hK hP 0 rfl rfl 3 (by decide) (hts (.fieldLink RX3 22 "BallastTrack$Text" "position" "I") (List.mem_of_getElem? (i := 1) rfl)) (fun _ h9 => h9) rfl dX3_readNumber_100 ?_
    refine lv_topi (fun x99 ex99 => ?_)
    replace hf := nm_i hf ex99
    refine lv_iload hx hb dX3_readNumber_103 (lv_at hl 3 rfl) ?_
    refine lv_iconst (v := 1) hx hb dX3_readNumber_105 (by decide) ?_
    refine lv_iadd hx hb dX3_readNumber_106 ?_
    refine lv_topi (fun x100 ex100 => ?_)
    replace hf := nm_i hf ex100
    obtain ⟨K122_109, eK122_109, hf⟩ := jn_i hf
    have hK122_109 : ∀  (H : Heap) (locs : List Loc) (ls : Array Slot), K122_109  = some o → va_P D vwCl (List.flatten [wX cT g b z76.2]) H → va_S A s.heap H locs → lv_has ls 6 [(0, .ref (g b)), (2, .int p1), (3, .int p2), (4, .int x50), (5, .int z76.1)] → W p l e rm_X3_readNumber s m args below meth c H locs 0 0 Q (F0 m 122 ls []) := by
      intro  H locs ls hf hP hS hl
      rw [eK122_109] at hf
      refine lv_iload hx hb dX3_readNumber_122 (lv_at hl 4 rfl) ?_
      refine lv_iload_n hx hb dX3_readNumber_124 rfl (lv_at hl 1 rfl) ?_
      refine lv_iload_n hx hb dX3_readNumber_125 rfl (lv_at hl 2 rfl) ?_
      obtain ⟨o110, ho110, hf⟩ := bd_i hf
      refine cl_i [] [0] [wX cT g b z76.2] hP (va_D_adr hD rfl) hA hS (va_runSN (As := [.int z76.1, .int p1, .int p2]) (rest := []) ⟨hx, hb, hml, hown, hts⟩ (c_X4_isWithin l D cT g  fu  z76.1 p1 p2 o110 ho110 _) ⟨va_cnB 3 hts gX3_readNumber_X4_isWithin_n67 rfl rfl rfl hN.2.2.1 (hts (.initialized RX4) (List.mem_of_getElem? (i := 13) rfl)) (by decide +kernel) ⟨Nat.le_of_ble_eq_true rfl, Nat.le_of_ble_eq_true rfl⟩, (hts (.static yX4_isWithin) (List.mem_of_getElem? (i := 12) rfl)), trivial⟩ ⟨PRE_blind, PRE_ok [] (by decide) hP (va_D_adr hD rfl) hA hS hK hN hZ⟩ rfl rfl hl.1 rfl (lv_room (Nat.le_of_ble_eq_true rfl)) dX3_readNumber_126 ⟨Nat.le_of_ble_eq_true rfl, Nat.le_of_ble_eq_true rfl⟩) rfl 1 rfl (by decide) (by decide) (fun H locs hP hS => ?_)
      refine lv_if_ne (tgt := 139) hx hb dX3_readNumber_129 (by decide) (fun c111 => ?_) (fun c111 => ?_)
      · replace hf := it_t hf c111
        refine lv_iload hx hb dX3_readNumber_139 (lv_at hl 4 rfl) ?_
        obtain rfl := Option.some.inj hf
        subst hQ
        exact en_i hx hb hr hP hS hlocks dX3_readNumber_141
      · replace hf := it_f hf (not_not_intro c111)
        refine lv_aload_n hx hb dX3_readNumber_132 rfl (lv_at hl 0 rfl) ?_
        refine lv_iload hx hb dX3_readNumber_133 (lv_at hl 3 rfl) ?_
        obtain ⟨o112, ho112, hf⟩ := bd_i hf
        refine cl_i [0] [] [wX cT g b o112.2] hP (va_D_adr hD rfl) hA hS (va_runV (As := [.int x50]) (rest := []) ⟨hx, hb, hml, hown, hts⟩ (c_X3_fail l D cT g b fu z76.2 x50 o112 ho112 _) (cwV 1 hts gX3_readNumber_X3_fail rfl rfl rfl (by decide +kernel) ⟨Nat.le_of_ble_eq_true rfl, Nat.le_of_ble_eq_true rfl⟩) ⟨PRE_blind, va_recv hK hP (ci := 3) (q0 := 0) rfl rfl, PRE_ok [0] (by decide) hP (va_D_adr hD rfl) hA hS hK hN hZ⟩ rfl rfl hl.1 rfl (lv_room (Nat.le_of_ble_eq_true rfl)) dX3_readNumber_135 ⟨Nat.le_of_ble_eq_true rfl, Nat.le_of_ble_eq_true rfl⟩) rfl 1 rfl (by decide) (by decide) (fun H locs hP hS => ?_)
        obtain rfl := Option.some.inj hf
        subst hQ
        exact en_i hx hb hr hP hS hlocks dX3_readNumber_138
    clear eK122_109
    refine lv_icmp_le (tgt := 122) hx hb dX3_readNumber_107 (by decide) (fun c113 => ?_) (fun c113 => ?_)
    · replace hf := it_t hf c113
      exact hK122_109  _ _ _ hf hP hS (lv_sub hl [0, 1, 2, 3, 4] rfl)
    · replace hf := it_f hf c113
      refine lv_aload_n hx hb dX3_readNumber_110 rfl (lv_at hl 0 rfl) ?_
      refine va_get (ci := 3) (v := .ref (g (b + 1))) (C := RX3) (T := TX3) (N := 4) hx hb hts iw_X3_readNumber_X3 hown hK hP 0 rfl rfl 0 (by decide) (hts (.fieldLink RX3 9 "BallastTrack$Text" "characters" "[I") (List.mem_of_getElem? (i := 3) rfl)) (fun _ h9 => h9) rfl dX3_readNumber_111 ?_
      refine lv_iload hx hb dX3_readNumber_114 (lv_at hl 3 rfl) ?_
      obtain ⟨hi114, hf⟩ := ix_i hf
      refine va_iald hx hb hK hP 1 0 rfl rfl hi114 dX3_readNumber_116 ?_
      refine lv_topi (fun x115 ex115 => ?_)
      replace hf := nm_i hf ex115
      refine lv_bipush (v := 48) hx hb dX3_readNumber_117 (by decide) ?_
      refine lv_icmp_eq (tgt := 132) hx hb dX3_readNumber_119 (by decide) (fun c116 => ?_) (fun c116 => ?_)
      · replace hf := it_t hf c116
        refine lv_aload_n hx hb dX3_readNumber_132 rfl (lv_at hl 0 rfl) ?_
        refine lv_iload hx hb dX3_readNumber_133 (lv_at hl 3 rfl) ?_
        obtain ⟨o117, ho117, hf⟩ := bd_i hf
        refine cl_i [0] [] [wX cT g b o117.2] hP (va_D_adr hD rfl) hA hS (va_runV (As := [.int x50]) (rest := []) ⟨hx, hb, hml, hown, hts⟩ (c_X3_fail l D cT g b fu z76.2 x50 o117 ho117 _) (cwV 1 hts gX3_readNumber_X3_fail rfl rfl rfl (by decide +kernel) ⟨Nat.le_of_ble_eq_true rfl, Nat.le_of_ble_eq_true rfl⟩) ⟨PRE_blind, va_recv hK hP (ci := 3) (q0 := 0) rfl rfl, PRE_ok [0] (by decide) hP (va_D_adr hD rfl) hA hS hK hN hZ⟩ rfl rfl hl.1 rfl (lv_room (Nat.le_of_ble_eq_true rfl)) dX3_readNumber_135 ⟨Nat.le_of_ble_eq_true rfl, Nat.le_of_ble_eq_true rfl⟩) rfl 1 rfl (by decide) (by decide) (fun H locs hP hS => ?_)
        obtain rfl := Option.some.inj hf
        subst hQ
        exact en_i hx hb hr hP hS hlocks dX3_readNumber_138
      · replace hf := it_f hf c116
        exact hK122_109  _ _ _ hf hP hS (lv_sub hl [0, 1, 2, 3, 4] rfl)
  · replace hf := it_f hf (not_not_intro c98)
    refine lv_aload_n hx hb dX3_readNumber_92 rfl (lv_at hl 0 rfl) ?_
    refine lv_iload hx hb dX3_readNumber_93 (lv_at hl 3 rfl) ?_
    obtain ⟨o118, ho118, hf⟩ := bd_i hf
    refine cl_i [0] [] [wX cT g b o118.2] hP (va_D_adr hD rfl) hA hS (va_runV (As := [.int x50]) (rest := []) ⟨hx, hb, hml, hown, hts⟩ (c_X3_fail l D cT g b fu z76.2 x50 o118 ho118 _) (cwV 1 hts gX3_readNumber_X3_fail rfl rfl rfl (by decide +kernel) ⟨Nat.le_of_ble_eq_true rfl, Nat.le_of_ble_eq_true rfl⟩) ⟨PRE_blind, va_recv hK hP (ci := 3) (q0 := 0) rfl rfl, PRE_ok [0] (by decide) hP (va_D_adr hD rfl) hA hS hK hN hZ⟩ rfl rfl hl.1 rfl (lv_room (Nat.le_of_ble_eq_true rfl)) dX3_readNumber_95 ⟨Nat.le_of_ble_eq_true rfl, Nat.le_of_ble_eq_true rfl⟩) rfl 1 rfl (by decide) (by decide) (fun H locs hP hS => ?_)
    obtain rfl := Option.some.inj hf
    subst hQ
    exact en_i hx hb hr hP hS hlocks dX3_readNumber_98
theorem iw_X3_readItem_X1 : ∀ w ∈ u_ws RX1 TX1 9, w ∈ wsX3_readItem := by decide +kernel
def f_X3_readItem (fu : Nat) (u_tx : TX) (u_st : TS)  : Option (Bool × TX × TS) :=
bd (f_X3_takes fu u_tx ((98 : Int32))) fun (o263 : Bool × TX) =>
jn (fun (u267 : TX) =>
nm (S_sl u_st) fun (x396 : Int32) =>
nm (x396 - (1 : Int32)) fun (x397 : Int32) =>
bd (f_X3_readNumber fu u267 ((2 : Int32)) ((0 : Int32)) x397) fun (o398 : Int32 × TX) =>
if 0 ≤ o398.1 then (
bd (f_X3_takes fu o398.2 ((45 : Int32))) fun (o400 : Bool × TX) =>
jn (fun (x405 : Int32) (u406 : TX) =>
if x405 < 0 then (
some (false, u406, u_st)
)
else (
bd (f_X3_expects fu u406 ((61 : Int32))) fun (o465 : Bool × TX) =>
if ¬ bI o465.1 = 0 then (
jn (fun (x471 : Int32) (u472 : TX) =>
jn (fun (x499 : Int32) (u500 : TX) =>
if x499 < 0 then (
some (false, u500, u_st)
)
else (
bd (f_X3_expects fu u500 ((59 : Int32))) fun (o510 : Bool × TX) =>
if ¬ bI o510.1 = 0 then (
if x471 = 0 then (
bd (f_X3_put fu u_st o263.1 o398.1 x405 x499) fun (o513 : TS) =>
some (true, o510.2, o513)
)
else (
nm (-x499) fun (x514 : Int32) =>
bd (f_X3_put fu u_st o263.1 o398.1 x405 x514) fun (o515 : TS) =>
some (true, o510.2, o515)
)
)
else (
some (false, o510.2, u_st)
)
)
) fun K127_508 =>
if bI o263.1 = 0 then (
bd (f_X3_readNumber fu u472 ((3 : Int32)) ((0 : Int32)) ((100 : Int32))) fun (o517 : Int32 × TX) =>
K127_508 o517.1 o517.2
)
else (
bd (f_X3_readNumber fu u472 ((4 : Int32)) ((0 : Int32)) ((9999 : Int32))) fun (o518 : Int32 × TX) =>
K127_508 o518.1 o518.2
)
) fun K101_495 =>
jn (fun (u470 : TX) =>
K101_495 ((0 : Int32)) u470
) fun K100_519 =>
if bI o263.1 = 0 then (
K100_519 o465.2
)
else (
bd (f_X3_takes fu o465.2 ((45 : Int32))) fun (o521 : Bool × TX) =>
if bI o521.1 = 0 then (
K100_519 o521.2
)
else (
K101_495 ((1 : Int32)) o521.2
)
)
)
else (
some (false, o465.2, u_st)
)
)
) fun K67_463 =>
if bI o400.1 = 0 then (
K67_463 o398.1 o400.2
)
else (
nm (S_sl u_st) fun (x524 : Int32) =>
nm (x524 - (1 : Int32)) fun (x525 : Int32) =>
bd (f_X3_readNumber fu o400.2 ((2 : Int32)) o398.1 x525) fun (o526 : Int32 × TX) =>
K67_463 o526.1 o526.2
)
)
else (
some (false, o398.2, u_st)
)
) fun K22_395 =>
if ¬ bI o263.1 = 0 then (
K22_395 o263.2
)
else (
bd (f_X3_expects fu o263.2 ((102 : Int32))) fun (o528 : Bool × TX) =>
if ¬ bI o528.1 = 0 then (
K22_395 o528.2
)
else (
some (false, o528.2, u_st)
)
)

abbrev rm_X3_readItem : Room := { frames := 3, cells := 0, slots := 0, locals := 67 }
set_option maxHeartbeats 4000000 in
set_option maxRecDepth 100000 in
theorem c_X3_readItem (l : Launch) (D : va_G) (cT : Nat → ClassId) (g : Nat → Nat) (b b2 : Nat) (fu : Nat) (u_tx : TX) (u_st : TS)  (o : Bool × TX × TS) (hf : f_X3_readItem fu u_tx u_st  = some o) (sz : Nat) : Met l yX3_readItem wsX3_readItem rm_X3_readItem (va_Pc [.ref (g b), .ref (g b2)] (PRE D cT sz (List.flatten [wX cT g b u_tx, wS cT g b2 u_st]))) (QI D (bI o.1) (List.flatten [wX cT g b o.2.1, wS cT g b2 o.2.2]) (va_A (List.flatten [wX cT g b u_tx, wS cT g b2 u_st]) sz)) 0 0 (va_A (List.flatten [wX cT g b u_tx, wS cT g b2 u_st]) sz) := by
  refine Met.ofW (cc := cX3_readItem) (maxL := 7) (ret := (some .boolean)) (by decide) rfl ?_
  intro p e s m args below meth c s₁ B0 hml hv
  obtain ⟨hav, hsz, hP, hK, hD, hN, hZ⟩ := hv
  have hx := B0.exec
  have hb := B0.bytes
  have hr := B0.returns
  have hts := atoms_spec (ws := wsX3_readItem) B0.pre
  have hown : s.vm.findClass RX3 = some m.cls := findClass_of_methodNamed B0.named
  have hlocks := B0.notSynchronized
  subst hsz
  have hD := hD.self (sz := s.heap.size)
  have hA : ∀ q : Nat, s.heap.size ≤ q → va_A (List.flatten [wX cT g b u_tx, wS cT g b2 u_st]) s.heap.size q := fun q h => Or.inr h
  generalize va_A (List.flatten [wX cT g b u_tx, wS cT g b2 u_st]) s.heap.size = A at hD hZ hA ⊢
  have hS : va_S A s.heap s.heap [] := va_S.rf
  have hl := lv_entry ([.ref (g b), .ref (g b2)]) (n := 7) (Nat.le_of_ble_eq_true rfl)
  rw [hav]
  rw [lg_entry_eq]
  generalize (lg_sl ([.ref (g b), .ref (g b2)]) ++ List.replicate (7 - (lg_sl ([.ref (g b), .ref (g b2)])).length) Slot.unset).toArray = ls at hl ⊢
  have hl : lv_has ls 7 [(0, .ref (g b)), (1, .ref (g b2))] := hl
  rw [← hav]
  generalize hQ : MQ below _ _ _ _ _ _ = Q
  show W p l e rm_X3_readItem s m args below meth c s.heap [] 0 0 Q (F0 m 0 ls [])
  unfold f_X3_readItem at hf
  refine lv_aload_n hx hb dX3_readItem_0 rfl (lv_at hl 0 rfl) ?_
  refine lv_bipush (v := 98) hx hb dX3_readItem_1 (by decide) ?_
  obtain ⟨o263, ho263, hf⟩ := bd_i hf
  refine cl_i [0] [1] [wX cT g b o263.2, wS cT g b2 u_st] hP (va_D_adr hD rfl) hA hS (va_runV (As := [.int ((98 : Int32))]) (rest := []) ⟨hx, hb, hml, hown, hts⟩ (c_X3_takes l D cT g b fu u_tx ((98 : Int32)) o263 ho263 _) (cwV 1 hts gX3_readItem_X3_takes rfl rfl rfl (by decide +kernel) ⟨Nat.le_of_ble_eq_true rfl, Nat.le_of_ble_eq_true rfl⟩) ⟨PRE_blind, va_recv hK hP (ci := 3) (q0 := 0) rfl rfl, PRE_ok [0] (by decide) hP (va_D_adr hD rfl) hA hS hK hN hZ⟩ rfl rfl hl.1 rfl (lv_room (Nat.le_of_ble_eq_true rfl)) dX3_readItem_3 ⟨Nat.le_of_ble_eq_true rfl, Nat.le_of_ble_eq_true rfl⟩) rfl 2 rfl (by decide) (by decide) (fun H locs hP hS => ?_)
  refine lv_istore_n (lv' := [(2, .int (bI o263.1)), (0, .ref (g b)), (1, .ref (g b2))]) hx hb dX3_readItem_6 rfl hl (by decide) rfl (fun ls hl => ?_)
  refine lv_iload_n hx hb dX3_readItem_7 rfl (lv_at hl 0 rfl) ?_
  obtain ⟨K22_395, eK22_395, hf⟩ := jn_i hf
  have hK22_395 : ∀ (u267 : TX) (H : Heap) (locs : List Loc) (ls : Array Slot), K22_395 u267 = some o → va_P D vwCl (List.flatten [wX cT g b u267, wS cT g b2 u_st]) H → va_S A s.heap H locs → lv_has ls 7 [(0, .ref (g b)), (1, .ref (g b2)), (2, .int (bI o263.1))] → W p l e rm_X3_readItem s m args below meth c H locs 0 0 Q (F0 m 22 ls []) := by
    intro u267 H locs ls hf hP hS hl
    rw [eK22_395] at hf
    refine lv_aload_n hx hb dX3_readItem_22 rfl (lv_at hl 0 rfl) ?_
    refine lv_iconst (v := 2) hx hb dX3_readItem_23 (by decide) ?_
    refine lv_iconst (v := 0) hx hb dX3_readItem_24 (by decide) ?_
    refine lv_aload_n hx hb dX3_readItem_25 rfl (lv_at hl 1 rfl) ?_
    refine va_get (ci := 1) (v := .int (S_sl u_st)) (C := RX1) (T := TX1) (N := 9) hx hb hts iw_X3_readItem_X1 hown hK hP 2 rfl rfl 0 (by decide) (hts (.fieldLink RX3 39 "BallastTrack$State" "sleepers" "I") (List.mem_of_getElem? (i := 1) rfl)) (fun _ h9 => h9) rfl dX3_readItem_26 ?_
    refine lv_topi (fun x396 ex396 => ?_)
    replace hf := nm_i hf ex396
    refine lv_iconst (v := 1) hx hb dX3_readItem_29 (by decide) ?_
    refine lv_isub hx hb dX3_readItem_30 ?_
    refine lv_topi (fun x397 ex397 => ?_)
    replace hf := nm_i hf ex397
    obtain ⟨o398, ho398, hf⟩ := bd_i hf
    refine cl_i [0] [1] [wX cT g b o398.2, wS cT g b2 u_st] hP (va_D_adr hD rfl) hA hS (va_runV (As := [.int ((2 : Int32)), .int ((0 : Int32)), .int x397]) (rest := []) ⟨hx, hb, hml, hown, hts⟩ (c_X3_readNumber l D cT g b fu u267 ((2 : Int32)) ((0 : Int32)) x397 o398 ho398 _) (cwV 3 hts gX3_readItem_X3_readNumber rfl rfl rfl (by decide +kernel) ⟨Nat.le_of_ble_eq_true rfl, Nat.le_of_ble_eq_true rfl⟩) ⟨PRE_blind, va_recv hK hP (ci := 3) (q0 := 0) rfl rfl, PRE_ok [0] (by decide) hP (va_D_adr hD rfl) hA hS hK hN hZ⟩ rfl rfl hl.1 rfl (lv_room (Nat.le_of_ble_eq_true rfl)) dX3_readItem_31 ⟨Nat.le_of_ble_eq_true rfl, Nat.le_of_ble_eq_true rfl⟩) rfl 2 rfl (by decide) (by decide) (fun H locs hP hS => ?_)
    refine lv_istore_n (lv' := [(3, .int o398.1), (0, .ref (g b)), (1, .ref (g b2)), (2, .int (bI o263.1))]) hx hb dX3_readItem_34 rfl hl (by decide) rfl (fun ls hl => ?_)
    refine lv_iload_n hx hb dX3_readItem_35 rfl (lv_at hl 0 rfl) ?_
    refine lv_if_ge (tgt := 41) hx hb dX3_readItem_36 (by decide) (fun c399 => ?_) (fun c399 => ?_)
    · replace hf := it_t hf c399
      refine lv_iload_n hx hb dX3_readItem_41 rfl (lv_at hl 0 rfl) ?_
      refine lv_istore (lv' := [(4, .int o398.1), (3, .int o398.1), (0, .ref (g b)), (1, .ref (g b2)), (2, .int (bI o263.1))]) hx hb dX3_readItem_42 hl (by decide) rfl (fun ls hl => ?_)
      refine lv_aload_n hx hb dX3_readItem_44 rfl (lv_at hl 2 rfl) ?_
      refine lv_bipush (v := 45) hx hb dX3_readItem_45 (by decide) ?_
      obtain ⟨o400, ho400, hf⟩ := bd_i hf
      refine cl_i [0] [1] [wX cT g b o400.2, wS cT g b2 u_st] hP (va_D_adr hD rfl) hA hS (va_runV (As := [.int ((45 : Int32))]) (rest := []) ⟨hx, hb, hml, hown, hts⟩ (c_X3_takes l D cT g b fu o398.2 ((45 : Int32)) o400 ho400 _) (cwV 1 hts gX3_readItem_X3_takes rfl rfl rfl (by decide +kernel) ⟨Nat.le_of_ble_eq_true rfl, Nat.le_of_ble_eq_true rfl⟩) ⟨PRE_blind, va_recv hK hP (ci := 3) (q0 := 0) rfl rfl, PRE_ok [0] (by decide) hP (va_D_adr hD rfl) hA hS hK hN hZ⟩ rfl rfl hl.1 rfl (lv_room (Nat.le_of_ble_eq_true rfl)) dX3_readItem_47 ⟨Nat.le_of_ble_eq_true rfl, Nat.le_of_ble_eq_true rfl⟩) rfl 2 rfl (by decide) (by decide) (fun H locs hP hS => ?_)
      obtain ⟨K67_463, eK67_463, hf⟩ := jn_i hf
      have hK67_463 : ∀ (x405 : Int32) (u406 : TX) (H : Heap) (locs : List Loc) (ls : Array Slot), K67_463 x405 u406 = some o → va_P D vwCl (List.flatten [wX cT g b u406, wS cT g b2 u_st]) H → va_S A s.heap H locs → lv_has ls 7 [(0, .ref (g b)), (1, .ref (g b2)), (2, .int (bI o263.1)), (3, .int o398.1), (4, .int x405)] → W p l e rm_X3_readItem s m args below meth c H locs 0 0 Q (F0 m 67 ls []) := by
        intro x405 u406 H locs ls hf hP hS hl
        rw [eK67_463] at hf
        refine lv_iload hx hb dX3_readItem_67 (lv_at hl 4 rfl) ?_
        refine lv_if_lt (tgt := 81) hx hb dX3_readItem_69 (by decide) (fun c464 => ?_) (fun c464 => ?_)
        · replace hf := it_t hf c464
          refine lv_iconst (v := 0) hx hb dX3_readItem_81 (by decide) ?_
          obtain rfl := Option.some.inj hf
          subst hQ
          exact en_z (v := false) hx hb hr hP hS hlocks dX3_readItem_82
        · replace hf := it_f hf c464
          refine lv_aload_n hx hb dX3_readItem_72 rfl (lv_at hl 0 rfl) ?_
          refine lv_bipush (v := 61) hx hb dX3_readItem_73 (by decide) ?_
          obtain ⟨o465, ho465, hf⟩ := bd_i hf
          refine cl_i [0] [1] [wX cT g b o465.2, wS cT g b2 u_st] hP (va_D_adr hD rfl) hA hS (va_runV (As := [.int ((61 : Int32))]) (rest := []) ⟨hx, hb, hml, hown, hts⟩ (c_X3_expects l D cT g b fu u406 ((61 : Int32)) o465 ho465 _) (cwV 1 hts gX3_readItem_X3_expects rfl rfl rfl (by decide +kernel) ⟨Nat.le_of_ble_eq_true rfl, Nat.le_of_ble_eq_true rfl⟩) ⟨PRE_blind, va_recv hK hP (ci := 3) (q0 := 0) rfl rfl, PRE_ok [0] (by decide) hP (va_D_adr hD rfl) hA hS hK hN hZ⟩ rfl rfl hl.1 rfl (lv_room (Nat.le_of_ble_eq_true rfl)) dX3_readItem_75 ⟨Nat.le_of_ble_eq_true rfl, Nat.le_of_ble_eq_true rfl⟩) rfl 2 rfl (by decide) (by decide) (fun H locs hP hS => ?_)
          refine lv_if_ne (tgt := 83) hx hb dX3_readItem_78 (by decide) (fun c466 => ?_) (fun c466 => ?_)
          · replace hf := it_t hf c466
            refine lv_iload_n hx hb dX3_readItem_83 rfl (lv_at hl 2 rfl) ?_
            obtain ⟨K101_495, eK101_495, hf⟩ := jn_i hf
            have hK101_495 : ∀ (x471 : Int32) (u472 : TX) (H : Heap) (locs : List Loc) (ls : Array Slot), K101_495 x471 u472 = some o → va_P D vwCl (List.flatten [wX cT g b u472, wS cT g b2 u_st]) H → va_S A s.heap H locs → lv_has ls 7 [(0, .ref (g b)), (1, .ref (g b2)), (2, .int (bI o263.1)), (3, .int o398.1), (4, .int x405)] → W p l e rm_X3_readItem s m args below meth c H locs 0 0 Q (F0 m 101 ls [.int x471]) := by
              intro x471 u472 H locs ls hf hP hS hl
              rw [eK101_495] at hf
              refine lv_istore (lv' := [(5, .int x471), (0, .ref (g b)), (1, .ref (g b2)), (2, .int (bI o263.1)), (3, .int o398.1), (4, .int x405)]) hx hb dX3_readItem_101 hl (by decide) rfl (fun ls hl => ?_)
              refine lv_iload_n hx hb dX3_readItem_103 rfl (lv_at hl 3 rfl) ?_
              obtain ⟨K127_508, eK127_508, hf⟩ := jn_i hf
              have hK127_508 : ∀ (x499 : Int32) (u500 : TX) (H : Heap) (locs : List Loc) (ls : Array Slot), K127_508 x499 u500 = some o → va_P D vwCl (List.flatten [wX cT g b u500, wS cT g b2 u_st]) H → va_S A s.heap H locs → lv_has ls 7 [(0, .ref (g b)), (1, .ref (g b2)), (2, .int (bI o263.1)), (3, .int o398.1), (4, .int x405), (5, .int x471)] → W p l e rm_X3_readItem s m args below meth c H locs 0 0 Q (F0 m 127 ls [.int x499]) := by
                intro x499 u500 H locs ls hf hP hS hl
                rw [eK127_508] at hf
                refine lv_istore (lv' := [(6, .int x499), (0, .ref (g b)), (1, .ref (g b2)), (2, .int (bI o263.1)), (3, .int o398.1), (4, .int x405), (5, .int x471)]) hx hb dX3_readItem_127 hl (by decide) rfl (fun ls hl => ?_)
                refine lv_iload hx hb dX3_readItem_129 (lv_at hl 0 rfl) ?_
                refine lv_if_lt (tgt := 143) hx hb dX3_readItem_131 (by decide) (fun c509 => ?_) (fun c509 => ?_)
                · replace hf := it_t hf c509
                  refine lv_iconst (v := 0) hx hb dX3_readItem_143 (by decide) ?_
                  obtain rfl := Option.some.inj hf
                  subst hQ
                  exact en_z (v := false) hx hb hr hP hS hlocks dX3_readItem_144
                · replace hf := it_f hf c509
                  refine lv_aload_n hx hb dX3_readItem_134 rfl (lv_at hl 1 rfl) ?_
                  refine lv_bipush (v := 59) hx hb dX3_readItem_135 (by decide) ?_
                  obtain ⟨o510, ho510, hf⟩ := bd_i hf
                  refine cl_i [0] [1] [wX cT g b o510.2, wS cT g b2 u_st] hP (va_D_adr hD rfl) hA hS (va_runV (As := [.int ((59 : Int32))]) (rest := []) ⟨hx, hb, hml, hown, hts⟩ (c_X3_expects l D cT g b fu u500 ((59 : Int32)) o510 ho510 _) (cwV 1 hts gX3_readItem_X3_expects rfl rfl rfl (by decide +kernel) ⟨Nat.le_of_ble_eq_true rfl, Nat.le_of_ble_eq_true rfl⟩) ⟨PRE_blind, va_recv hK hP (ci := 3) (q0 := 0) rfl rfl, PRE_ok [0] (by decide) hP (va_D_adr hD rfl) hA hS hK hN hZ⟩ rfl rfl hl.1 rfl (lv_room (Nat.le_of_ble_eq_true rfl)) dX3_readItem_137 ⟨Nat.le_of_ble_eq_true rfl, Nat.le_of_ble_eq_true rfl⟩) rfl 2 rfl (by decide) (by decide) (fun H locs hP hS => ?_)
                  refine lv_if_ne (tgt := 145) hx hb dX3_readItem_140 (by decide) (fun c511 => ?_) (fun c511 => ?_)
                  · replace hf := it_t hf c511
                    refine lv_aload_n hx hb dX3_readItem_145 rfl (lv_at hl 2 rfl) ?_
                    refine lv_iload_n hx hb dX3_readItem_146 rfl (lv_at hl 3 rfl) ?_
                    refine lv_iload_n hx hb dX3_readItem_147 rfl (lv_at hl 4 rfl) ?_
                    refine lv_iload hx hb dX3_readItem_148 (lv_at hl 5 rfl) ?_
                    refine lv_iload hx hb dX3_readItem_150 (lv_at hl 6 rfl) ?_
                    refine lv_if_eq (tgt := 161) hx hb dX3_readItem_152 (by decide) (fun c512 => ?_) (fun c512 => ?_)
                    · replace hf := it_t hf c512
                      refine lv_iload hx hb dX3_readItem_161 (lv_at hl 0 rfl) ?_
                      obtain ⟨o513, ho513, hf⟩ := bd_i hf
                      refine cl_v [1] [0] [wX cT g b o510.2, wS cT g b2 o513] hP (va_D_adr hD rfl) hA hS (va_runS (As := [.ref (g b2), .int (bI o263.1), .int o398.1, .int x405, .int x499]) (rest := []) ⟨hx, hb, hml, hown, hts⟩ (c_X3_put l D cT g b2 fu u_st o263.1 o398.1 x405 x499 o513 ho513 _) (va_cwS 5 hts gX3_readItem_X3_put rfl rfl rfl (by decide +kernel) ⟨Nat.le_of_ble_eq_true rfl, Nat.le_of_ble_eq_true rfl⟩) ⟨PRE_blind, PRE_ok [1] (by decide) hP (va_D_adr hD rfl) hA hS hK hN hZ⟩ rfl rfl hl.1 rfl (lv_room (Nat.le_of_ble_eq_true rfl)) dX3_readItem_163 ⟨Nat.le_of_ble_eq_true rfl, Nat.le_of_ble_eq_true rfl⟩) rfl 2 rfl (by decide) (by decide) (fun H locs hP hS => ?_)
                      refine lv_iconst (v := 1) hx hb dX3_readItem_166 (by decide) ?_
                      obtain rfl := Option.some.inj hf
                      subst hQ
                      exact en_z (v := true) hx hb hr hP hS hlocks dX3_readItem_167
                    · replace hf := it_f hf c512
                      refine lv_iload hx hb dX3_readItem_155 (lv_at hl 0 rfl) ?_
                      refine lv_ineg hx hb dX3_readItem_157 ?_
                      refine lv_topi (fun x514 ex514 => ?_)
                      replace hf := nm_i hf ex514
                      refine lv_goto (tgt := 163) hx hb dX3_readItem_158 (by decide) ?_
                      obtain ⟨o515, ho515, hf⟩ := bd_i hf
                      refine cl_v [1] [0] [wX cT g b o510.2, wS cT g b2 o515] hP (va_D_adr hD rfl) hA hS (va_runS (As := [.ref (g b2), .int (bI o263.1), .int o398.1, .int x405, .int x514]) (rest := []) ⟨hx, hb, hml, hown, hts⟩ (c_X3_put l D cT g b2 fu u_st o263.1 o398.1 x405 x514 o515 ho515 _) (va_cwS 5 hts gX3_readItem_X3_put rfl rfl rfl (by decide +kernel) ⟨Nat.le_of_ble_eq_true rfl, Nat.le_of_ble_eq_true rfl⟩) ⟨PRE_blind, PRE_ok [1] (by decide) hP (va_D_adr hD rfl) hA hS hK hN hZ⟩ rfl rfl hl.1 rfl (lv_room (Nat.le_of_ble_eq_true rfl)) dX3_readItem_163 ⟨Nat.le_of_ble_eq_true rfl, Nat.le_of_ble_eq_true rfl⟩) rfl 2 rfl (by decide) (by decide) (fun H locs hP hS => ?_)
                      refine lv_iconst (v := 1) hx hb dX3_readItem_166 (by decide) ?_
                      obtain rfl := Option.some.inj hf
                      subst hQ
                      exact en_z (v := true) hx hb hr hP hS hlocks dX3_readItem_167
                  · replace hf := it_f hf (not_not_intro c511)
                    refine lv_iconst (v := 0) hx hb dX3_readItem_143 (by decide) ?_
                    obtain rfl := Option.some.inj hf
                    subst hQ
                    exact en_z (v := false) hx hb hr hP hS hlocks dX3_readItem_144
              clear eK127_508
              refine lv_if_eq (tgt := 119) hx hb dX3_readItem_104 (by decide) (fun c516 => ?_) (fun c516 => ?_)
              · replace hf := it_t hf c516
                refine lv_aload_n hx hb dX3_readItem_119 rfl (lv_at hl 1 rfl) ?_
                refine lv_iconst (v := 3) hx hb dX3_readItem_120 (by decide) ?_
                refine lv_iconst (v := 0) hx hb dX3_readItem_121 (by decide) ?_
                refine lv_bipush (v := 100) hx hb dX3_readItem_122 (by decide) ?_
                obtain ⟨o517, ho517, hf⟩ := bd_i hf
                refine cl_i [0] [1] [wX cT g b o517.2, wS cT g b2 u_st] hP (va_D_adr hD rfl) hA hS (va_runV (As := [.int ((3 : Int32)), .int ((0 : Int32)), .int ((100 : Int32))]) (rest := []) ⟨hx, hb, hml, hown, hts⟩ (c_X3_readNumber l D cT g b fu u472 ((3 : Int32)) ((0 : Int32)) ((100 : Int32)) o517 ho517 _) (cwV 3 hts gX3_readItem_X3_readNumber rfl rfl rfl (by decide +kernel) ⟨Nat.le_of_ble_eq_true rfl, Nat.le_of_ble_eq_true rfl⟩) ⟨PRE_blind, va_recv hK hP (ci := 3) (q0 := 0) rfl rfl, PRE_ok [0] (by decide) hP (va_D_adr hD rfl) hA hS hK hN hZ⟩ rfl rfl hl.1 rfl (lv_room (Nat.le_of_ble_eq_true rfl)) dX3_readItem_124 ⟨Nat.le_of_ble_eq_true rfl, Nat.le_of_ble_eq_true rfl⟩) rfl 2 rfl (by decide) (by decide) (fun H locs hP hS => ?_)
                exact hK127_508 _ _ _ _ _ hf hP hS (lv_sub hl [1, 2, 3, 4, 5, 0] rfl)
              · replace hf := it_f hf c516
                refine lv_aload_n hx hb dX3_readItem_107 rfl (lv_at hl 1 rfl) ?_
                refine lv_iconst (v := 4) hx hb dX3_readItem_108 (by decide) ?_
                refine lv_iconst (v := 0) hx hb dX3_readItem_109 (by decide) ?_
                refine lv_sipush (v := 9999) hx hb dX3_readItem_110 (by decide) ?_
                obtain ⟨o518, ho518, hf⟩ := bd_i hf
                refine cl_i [0] [1] [wX cT g b o518.2, wS cT g b2 u_st] hP (va_D_adr hD rfl) hA hS (va_runV (As := [.int ((4 : Int32)), .int ((0 : Int32)), .int ((9999 : Int32))]) (rest := []) ⟨hx, hb, hml, hown, hts⟩ (c_X3_readNumber l D cT g b fu u472 ((4 : Int32)) ((0 : Int32)) ((9999 : Int32)) o518 ho518 _) (cwV 3 hts gX3_readItem_X3_readNumber rfl rfl rfl (by decide +kernel) ⟨Nat.le_of_ble_eq_true rfl, Nat.le_of_ble_eq_true rfl⟩) ⟨PRE_blind, va_recv hK hP (ci := 3) (q0 := 0) rfl rfl, PRE_ok [0] (by decide) hP (va_D_adr hD rfl) hA hS hK hN hZ⟩ rfl rfl hl.1 rfl (lv_room (Nat.le_of_ble_eq_true rfl)) dX3_readItem_113 ⟨Nat.le_of_ble_eq_true rfl, Nat.le_of_ble_eq_true rfl⟩) rfl 2 rfl (by decide) (by decide) (fun H locs hP hS => ?_)
                refine lv_goto (tgt := 127) hx hb dX3_readItem_116 (by decide) ?_
                exact hK127_508 _ _ _ _ _ hf hP hS (lv_sub hl [1, 2, 3, 4, 5, 0] rfl)
            clear eK101_495
            obtain ⟨K100_519, eK100_519, hf⟩ := jn_i hf
            have hK100_519 : ∀ (u470 : TX) (H : Heap) (locs : List Loc) (ls : Array Slot), K100_519 u470 = some o → va_P D vwCl (List.flatten [wX cT g b u470, wS cT g b2 u_st]) H → va_S A s.heap H locs → lv_has ls 7 [(0, .ref (g b)), (1, .ref (g b2)), (2, .int (bI o263.1)), (3, .int o398.1), (4, .int x405)] → W p l e rm_X3_readItem s m args below meth c H locs 0 0 Q (F0 m 100 ls []) := by
              intro u470 H locs ls hf hP hS hl
              rw [eK100_519] at hf
              refine lv_iconst (v := 0) hx hb dX3_readItem_100 (by decide) ?_
              exact hK101_495 _ _ _ _ _ hf hP hS (lv_sub hl [0, 1, 2, 3, 4] rfl)
            clear eK100_519
            refine lv_if_eq (tgt := 100) hx hb dX3_readItem_84 (by decide) (fun c520 => ?_) (fun c520 => ?_)
            · replace hf := it_t hf c520
              exact hK100_519 _ _ _ _ hf hP hS (lv_sub hl [0, 1, 2, 3, 4] rfl)
            · replace hf := it_f hf c520
              refine lv_aload_n hx hb dX3_readItem_87 rfl (lv_at hl 0 rfl) ?_
              refine lv_bipush (v := 45) hx hb dX3_readItem_88 (by decide) ?_
              obtain ⟨o521, ho521, hf⟩ := bd_i hf
              refine cl_i [0] [1] [wX cT g b o521.2, wS cT g b2 u_st] hP (va_D_adr hD rfl) hA hS (va_runV (As := [.int ((45 : Int32))]) (rest := []) ⟨hx, hb, hml, hown, hts⟩ (c_X3_takes l D cT g b fu o465.2 ((45 : Int32)) o521 ho521 _) (cwV 1 hts gX3_readItem_X3_takes rfl rfl rfl (by decide +kernel) ⟨Nat.le_of_ble_eq_true rfl, Nat.le_of_ble_eq_true rfl⟩) ⟨PRE_blind, va_recv hK hP (ci := 3) (q0 := 0) rfl rfl, PRE_ok [0] (by decide) hP (va_D_adr hD rfl) hA hS hK hN hZ⟩ rfl rfl hl.1 rfl (lv_room (Nat.le_of_ble_eq_true rfl)) dX3_readItem_90 ⟨Nat.le_of_ble_eq_true rfl, Nat.le_of_ble_eq_true rfl⟩) rfl 2 rfl (by decide) (by decide) (fun H locs hP hS => ?_)
              refine lv_if_eq (tgt := 100) hx hb dX3_readItem_93 (by decide) (fun c522 => ?_) (fun c522 => ?_)
              · replace hf := it_t hf c522
                exact hK100_519 _ _ _ _ hf hP hS (lv_sub hl [0, 1, 2, 3, 4] rfl)
              · replace hf := it_f hf c522
                refine lv_iconst (v := 1) hx hb dX3_readItem_96 (by decide) ?_
                refine lv_goto (tgt := 101) hx hb dX3_readItem_97 (by decide) ?_
                exact hK101_495 _ _ _ _ _ hf hP hS (lv_sub hl [0, 1, 2, 3, 4] rfl)
          · replace hf := it_f hf (not_not_intro c466)
            refine lv_iconst (v := 0) hx hb dX3_readItem_81 (by decide) ?_
            obtain rfl := Option.some.inj hf
            subst hQ
            exact en_z (v := false) hx hb hr hP hS hlocks dX3_readItem_82
      clear eK67_463
      refine lv_if_eq (tgt := 67) hx hb dX3_readItem_50 (by decide) (fun c523 => ?_) (fun c523 => ?_)
      · replace hf := it_t hf c523
        exact hK67_463 _ _ _ _ _ hf hP hS (lv_sub hl [2, 3, 4, 1, 0] rfl)
      · replace hf := it_f hf c523
        refine lv_aload_n hx hb dX3_readItem_53 rfl (lv_at hl 2 rfl) ?_
        refine lv_iconst (v := 2) hx hb dX3_readItem_54 (by decide) ?_
        refine lv_iload_n hx hb dX3_readItem_55 rfl (lv_at hl 1 rfl) ?_
        refine lv_aload_n hx hb dX3_readItem_56 rfl (lv_at hl 3 rfl) ?_
        refine va_get (ci := 1) (v := .int (S_sl u_st)) (C := RX1) (T := TX1) (N := 9) hx hb hts iw_X3_readItem_X1 hown hK hP 2 rfl rfl 0 (by decide) (hts (.fieldLink RX3 39 "BallastTrack$State" "sleepers" "I") (List.mem_of_getElem? (i := 1) rfl)) (fun _ h9 => h9) rfl dX3_readItem_57 ?_
        refine lv_topi (fun x524 ex524 => ?_)
        replace hf := nm_i hf ex524
        refine lv_iconst (v := 1) hx hb dX3_readItem_60 (by decide) ?_
        refine lv_isub hx hb dX3_readItem_61 ?_
        refine lv_topi (fun x525 ex525 => ?_)
        replace hf := nm_i hf ex525
        obtain ⟨o526, ho526, hf⟩ := bd_i hf
        refine cl_i [0] [1] [wX cT g b o526.2, wS cT g b2 u_st] hP (va_D_adr hD rfl) hA hS (va_runV (As := [.int ((2 : Int32)), .int o398.1, .int x525]) (rest := []) ⟨hx, hb, hml, hown, hts⟩ (c_X3_readNumber l D cT g b fu o400.2 ((2 : Int32)) o398.1 x525 o526 ho526 _) (cwV 3 hts gX3_readItem_X3_readNumber rfl rfl rfl (by decide +kernel) ⟨Nat.le_of_ble_eq_true rfl, Nat.le_of_ble_eq_true rfl⟩) ⟨PRE_blind, va_recv hK hP (ci := 3) (q0 := 0) rfl rfl, PRE_ok [0] (by decide) hP (va_D_adr hD rfl) hA hS hK hN hZ⟩ rfl rfl hl.1 rfl (lv_room (Nat.le_of_ble_eq_true rfl)) dX3_readItem_62 ⟨Nat.le_of_ble_eq_true rfl, Nat.le_of_ble_eq_true rfl⟩) rfl 2 rfl (by decide) (by decide) (fun H locs hP hS => ?_)
        refine lv_istore (lv' := [(4, .int o526.1), (3, .int o398.1), (0, .ref (g b)), (1, .ref (g b2)), (2, .int (bI o263.1))]) hx hb dX3_readItem_65 hl (by decide) rfl (fun ls hl => ?_)
        exact hK67_463 _ _ _ _ _ hf hP hS (lv_sub hl [2, 3, 4, 1, 0] rfl)
    · replace hf := it_f hf c399
      refine lv_iconst (v := 0) hx hb dX3_readItem_39 (by decide) ?_
      obtain rfl := Option.some.inj hf
      subst hQ
      exact en_z (v := false) hx hb hr hP hS hlocks dX3_readItem_40
  clear eK22_395
  refine lv_if_ne (tgt := 22) hx hb dX3_readItem_8 (by decide) (fun c527 => ?_) (fun c527 => ?_)
  · replace hf := it_t hf c527
    exact hK22_395 _ _ _ _ hf hP hS (lv_sub hl [1, 2, 0] rfl)
  · replace hf := it_f hf (not_not_intro c527)
    refine lv_aload_n hx hb dX3_readItem_11 rfl (lv_at hl 1 rfl) ?_
    refine lv_bipush (v := 102) hx hb dX3_readItem_12 (by decide) ?_
    obtain ⟨o528, ho528, hf⟩ := bd_i hf
    refine cl_i [0] [1] [wX cT g b o528.2, wS cT g b2 u_st] hP (va_D_adr hD rfl) hA hS (va_runV (As := [.int ((102 : Int32))]) (rest := []) ⟨hx, hb, hml, hown, hts⟩ (c_X3_expects l D cT g b fu o263.2 ((102 : Int32)) o528 ho528 _) (cwV 1 hts gX3_readItem_X3_expects rfl rfl rfl (by decide +kernel) ⟨Nat.le_of_ble_eq_true rfl, Nat.le_of_ble_eq_true rfl⟩) ⟨PRE_blind, va_recv hK hP (ci := 3) (q0 := 0) rfl rfl, PRE_ok [0] (by decide) hP (va_D_adr hD rfl) hA hS hK hN hZ⟩ rfl rfl hl.1 rfl (lv_room (Nat.le_of_ble_eq_true rfl)) dX3_readItem_14 ⟨Nat.le_of_ble_eq_true rfl, Nat.le_of_ble_eq_true rfl⟩) rfl 2 rfl (by decide) (by decide) (fun H locs hP hS => ?_)
    refine lv_if_ne (tgt := 22) hx hb dX3_readItem_17 (by decide) (fun c529 => ?_) (fun c529 => ?_)
    · replace hf := it_t hf c529
      exact hK22_395 _ _ _ _ hf hP hS (lv_sub hl [1, 2, 0] rfl)
    · replace hf := it_f hf (not_not_intro c529)
      refine lv_iconst (v := 0) hx hb dX3_readItem_20 (by decide) ?_
      obtain rfl := Option.some.inj hf
      subst hQ
      exact en_z (v := false) hx hb hr hP hS hlocks dX3_readItem_21
theorem iw_X3_readInto_X3 : ∀ w ∈ u_ws RX3 TX3 4, w ∈ wsX3_readInto := by decide +kernel
def lb_X3_readInto_7 (fu : Nat)  (rec : Int32 → TX → TS → Option ((Int32 × TX × TS) ⊕ (TX × TS))) (v29 : Int32) (u30 : TX) (u31 : TS) : Option ((Int32 × TX × TS) ⊕ (TX × TS)) :=
if (100 : Int32) ≤ v29 then (
some (Sum.inr (u30, u31))
)
else (
bd (f_X3_skipSpaces fu u30 ) fun (o35 : TX) =>
nm (X_po o35) fun (x36 : Int32) =>
nm (X_ln o35) fun (x37 : Int32) =>
if x36 < x37 then (
bd (f_X3_readItem fu o35 u31 ) fun (o39 : Bool × TX × TS) =>
if ¬ bI o39.1 = 0 then (
nm (v29 + (1 : Int32)) fun (x41 : Int32) =>
rec x41 o39.2.1 o39.2.2
)
else (
some (Sum.inl ((-1 : Int32), o39.2.1, o39.2.2))
)
)
else (
some (Sum.inl (v29, o35, u31))
)
)

def lf_X3_readInto_7 (fu : Nat)  : Nat → Int32 → TX → TS → Option ((Int32 × TX × TS) ⊕ (TX × TS)) := lq_3 (lb_X3_readInto_7 fu )
def f_X3_readInto (fu : Nat) (u_tx : TX) (u_st : TS)  : Option (Int32 × TX × TS) :=
nm (X_po_ u_tx ((0 : Int32))) fun (u17 : TX) =>
bd (lf_X3_readInto_7 fu  fu ((0 : Int32)) u17 u_st) fun (z33 : (Int32 × TX × TS) ⊕ (TX × TS)) =>
sm z33 (fun r => some r) fun (ex0 : TX × TS) =>
some ((-1 : Int32), ex0.1, ex0.2)

abbrev rm_X3_readInto : Room := { frames := 4, cells := 0, slots := 0, locals := 93 }
set_option maxHeartbeats 4000000 in
set_option maxRecDepth 100000 in
theorem c_X3_readInto (l : Launch) (D : va_G) (cT : Nat → ClassId) (g : Nat → Nat) (b b2 : Nat) (fu : Nat) (u_tx : TX) (u_st : TS)  (o : Int32 × TX × TS) (hf : f_X3_readInto fu u_tx u_st  = some o) (sz : Nat) : Met l yX3_readInto wsX3_readInto rm_X3_readInto (va_Pc [.ref (g b), .ref (g b2)] (PRE D cT sz (List.flatten [wX cT g b u_tx, wS cT g b2 u_st]))) (QI D o.1 (List.flatten [wX cT g b o.2.1, wS cT g b2 o.2.2]) (va_A (List.flatten [wX cT g b u_tx, wS cT g b2 u_st]) sz)) 0 0 (va_A (List.flatten [wX cT g b u_tx, wS cT g b2 u_st]) sz) := by
  refine Met.ofW (cc := cX3_readInto) (maxL := 3) (ret := (some .int)) (by decide) rfl ?_
  intro p e s m args below meth c s₁ B0 hml hv
  obtain ⟨hav, hsz, hP, hK, hD, hN, hZ⟩ := hv
  have hx := B0.exec
  have hb := B0.bytes
  have hr := B0.returns
  have hts := atoms_spec (ws := wsX3_readInto) B0.pre
  have hown : s.vm.findClass RX3 = some m.cls := findClass_of_methodNamed B0.named
  have hlocks := B0.notSynchronized
  subst hsz
  have hD := hD.self (sz := s.heap.size)
  have hA : ∀ q : Nat, s.heap.size ≤ q → va_A (List.flatten [wX cT g b u_tx, wS cT g b2 u_st]) s.heap.size q := fun q h => Or.inr h
  generalize va_A (List.flatten [wX cT g b u_tx, wS cT g b2 u_st]) s.heap.size = A at hD hZ hA ⊢
  have hS : va_S A s.heap s.heap [] := va_S.rf
  have hl := lv_entry ([.ref (g b), .ref (g b2)]) (n := 3) (Nat.le_of_ble_eq_true rfl)
  rw [hav]
  rw [lg_entry_eq]
  generalize (lg_sl ([.ref (g b), .ref (g b2)]) ++ List.replicate (3 - (lg_sl ([.ref (g b), .ref (g b2)])).length) Slot.unset).toArray = ls at hl ⊢
  have hl : lv_has ls 3 [(0, .ref (g b)), (1, .ref (g b2))] := hl
  rw [← hav]
  generalize hQ : MQ below _ _ _ _ _ _ = Q
  show W p l e rm_X3_readInto s m args below meth c s.heap [] 0 0 Q (F0 m 0 ls [])
  unfold f_X3_readInto at hf
  refine lv_aload_n hx hb dX3_readInto_0 rfl (lv_at hl 0 rfl) ?_
  refine lv_iconst (v := 0) hx hb dX3_readInto_1 (by decide) ?_
  refine va_put (ci := 3) (v := .int ((0 : Int32))) (ty := .int) (C := RX3) (T := TX3) (N := 4) hx hb hts iw_X3_readInto_X3 tyX3 tyX3_ok nmX3 hown hK hP (va_D_adr hD rfl) hS 0 rfl rfl 3 (by decide) (hts (.fieldLink RX3 22 "BallastTrack$Text" "position" "I") (List.mem_of_getElem? (i := 1) rfl)) (fun _ h9 => h9) rfl (by decide +kernel) rfl rfl (Nat.le_of_ble_eq_true rfl) dX3_readInto_2 (fun H locs hP _ hS => ?_)
  obtain ⟨u17, eu17⟩ : ∃ z : TX, z = X_po_ u_tx ((0 : Int32)) := ⟨_, rfl⟩
  replace hf := nm_i hf eu17
  have hP : va_P D vwCl (List.flatten [wX cT g b u17, wS cT g b2 u_st]) H := by rw [eu17]; exact hP
  refine lv_iconst (v := 0) hx hb dX3_readInto_5 (by decide) ?_
  refine lv_istore_n (lv' := [(2, .int ((0 : Int32))), (0, .ref (g b)), (1, .ref (g b2))]) hx hb dX3_readInto_6 rfl hl (by decide) rfl (fun ls hl => ?_)
  obtain ⟨z33, hz33, hf⟩ := bd_i hf
  have hL7 : ∀ (n : Nat) (v29 : Int32) (u30 : TX) (u31 : TS) (z32 : (Int32 × TX × TS) ⊕ (TX × TS)), lf_X3_readInto_7 fu  n v29 u30 u31 = some z32 → ∀ (H : Heap) (locs : List Loc) (ls : Array Slot), va_P D vwCl (List.flatten [wX cT g b u30, wS cT g b2 u31]) H → va_S A s.heap H locs → lv_has ls 3 [(0, .ref (g b)), (1, .ref (g b2)), (2, .int v29)] → (∀ r, z32 = Sum.inl r → r = o) → (∀ ex0, z32 = Sum.inr ex0 → ∀ (H : Heap) (locs : List Loc) (ls : Array Slot), va_P D vwCl (List.flatten [wX cT g b ex0.1, wS cT g b2 ex0.2]) H → va_S A s.heap H locs → lv_has ls 3 [] → W p l e rm_X3_readInto s m args below meth c H locs 0 0 Q (F0 m 46 ls [])) → W p l e rm_X3_readInto s m args below meth c H locs 0 0 Q (F0 m 7 ls []) := by
    refine lq_3_ind (F := lb_X3_readInto_7 fu ) (fun rec ih v29 u30 u31 z32 hf H locs ls hP hS hl kr kx => ?_)
    unfold lb_X3_readInto_7 at hf
    refine lv_iload_n hx hb dX3_readInto_7 rfl (lv_at hl 2 rfl) ?_
    refine lv_bipush (v := 100) hx hb dX3_readInto_8 (by decide) ?_
    refine lv_icmp_ge (tgt := 46) hx hb dX3_readInto_10 (by decide) (fun c34 => ?_) (fun c34 => ?_)
    · replace hf := it_t hf c34
      obtain rfl := Option.some.inj hf
      exact kx _ rfl _ _ _ hP hS (lv_sub hl [] rfl)
    · replace hf := it_f hf c34
      refine lv_aload_n hx hb dX3_readInto_13 rfl (lv_at hl 0 rfl) ?_
      obtain ⟨o35, ho35, hf⟩ := bd_i hf
      refine cl_v [0] [1] [wX cT g b o35, wS cT g b2 u31] hP (va_D_adr hD rfl) hA hS (va_runV (As := []) (rest := []) ⟨hx, hb, hml, hown, hts⟩ (c_X3_skipSpaces l D cT g b fu u30  o35 ho35 _) (cwV 0 hts gX3_readInto_X3_skipSpaces rfl rfl rfl (by decide +kernel) ⟨Nat.le_of_ble_eq_true rfl, Nat.le_of_ble_eq_true rfl⟩) ⟨PRE_blind, va_recv hK hP (ci := 3) (q0 := 0) rfl rfl, PRE_ok [0] (by decide) hP (va_D_adr hD rfl) hA hS hK hN hZ⟩ rfl rfl hl.1 rfl (lv_room (Nat.le_of_ble_eq_true rfl)) dX3_readInto_14 ⟨Nat.le_of_ble_eq_true rfl, Nat.le_of_ble_eq_true rfl⟩) rfl 2 rfl (by decide) (by decide) (fun H locs hP hS => ?_)
      refine lv_aload_n hx hb dX3_readInto_17 rfl (lv_at hl 0 rfl) ?_
      refine va_get (ci := 3) (v := .int (X_po o35)) (C := RX3) (T := TX3) (N := 4) hx hb hts iw_X3_readInto_X3 hown hK hP 0 rfl rfl 3 (by decide) (hts (.fieldLink RX3 22 "BallastTrack$Text" "position" "I") (List.mem_of_getElem? (i := 1) rfl)) (fun _ h9 => h9) rfl dX3_readInto_18 ?_
      refine lv_topi (fun x36 ex36 => ?_)
      replace hf := nm_i hf ex36
      refine lv_aload_n hx hb dX3_readInto_21 rfl (lv_at hl 0 rfl) ?_
      refine va_get (ci := 3) (v := .int (X_ln o35)) (C := RX3) (T := TX3) (N := 4) hx hb hts iw_X3_readInto_X3 hown hK hP 0 rfl rfl 1 (by decide) (hts (.fieldLink RX3 15 "BallastTrack$Text" "length" "I") (List.mem_of_getElem? (i := 2) rfl)) (fun _ h9 => h9) rfl dX3_readInto_22 ?_
      refine lv_topi (fun x37 ex37 => ?_)
      replace hf := nm_i hf ex37
      refine lv_icmp_lt (tgt := 30) hx hb dX3_readInto_25 (by decide) (fun c38 => ?_) (fun c38 => ?_)
      · replace hf := it_t hf c38
        refine lv_aload_n hx hb dX3_readInto_30 rfl (lv_at hl 0 rfl) ?_
        refine lv_aload_n hx hb dX3_readInto_31 rfl (lv_at hl 1 rfl) ?_
        obtain ⟨o39, ho39, hf⟩ := bd_i hf
        refine cl_i [0, 1] [] [wX cT g b o39.2.1, wS cT g b2 o39.2.2] hP (va_D_adr hD rfl) hA hS (va_runV (As := [.ref (g b2)]) (rest := []) ⟨hx, hb, hml, hown, hts⟩ (c_X3_readItem l D cT g b b2 fu o35 u31  o39 ho39 _) (cwV 1 hts gX3_readInto_X3_readItem rfl rfl rfl (by decide +kernel) ⟨Nat.le_of_ble_eq_true rfl, Nat.le_of_ble_eq_true rfl⟩) ⟨PRE_blind, va_recv hK hP (ci := 3) (q0 := 0) rfl rfl, PRE_ok [0, 1] (by decide) hP (va_D_adr hD rfl) hA hS hK hN hZ⟩ rfl rfl hl.1 rfl (lv_room (Nat.le_of_ble_eq_true rfl)) dX3_readInto_32 ⟨Nat.le_of_ble_eq_true rfl, Nat.le_of_ble_eq_true rfl⟩) rfl 2 rfl (by decide) (by decide) (fun H locs hP hS => ?_)
        refine lv_if_ne (tgt := 40) hx hb dX3_readInto_35 (by decide) (fun c40 => ?_) (fun c40 => ?_)
        · replace hf := it_t hf c40
          obtain ⟨x41, ex41⟩ : ∃ z : Int32, z = v29 + (1 : Int32) := ⟨_, rfl⟩
          replace hf := nm_i hf ex41
          refine lv_iinc (v := x41) (lv' := [(2, .int x41), (0, .ref (g b)), (1, .ref (g b2))]) hx hb dX3_readInto_40 hl (k := 2) rfl (by rw [ex41]; rfl) (by decide) rfl (fun ls hl => ?_)
          refine lv_goto (tgt := 7) hx hb dX3_readInto_43 (by decide) ?_
          exact ih _ _ _ _ hf _ _ _ hP hS (lv_sub hl [1, 2, 0] rfl) kr kx
        · replace hf := it_f hf (not_not_intro c40)
          refine lv_iconst (v := -1) hx hb dX3_readInto_38 (by decide) ?_
          obtain rfl := Option.some.inj hf
          obtain rfl := kr _ rfl
          subst hQ
          exact en_i hx hb hr hP hS hlocks dX3_readInto_39
      · replace hf := it_f hf c38
        refine lv_iload_n hx hb dX3_readInto_28 rfl (lv_at hl 2 rfl) ?_
        obtain rfl := Option.some.inj hf
        obtain rfl := kr _ rfl
        subst hQ
        exact en_i hx hb hr hP hS hlocks dX3_readInto_29
  refine hL7 fu _ _ _ _ hz33 _ _ _ hP hS (lv_sub hl [1, 2, 0] rfl) (fun r hr => Option.some.inj (sm_l hf hr)) (fun ex0 he H locs ls hP hS hl => ?_)
  replace hf := sm_r hf he
  refine lv_iconst (v := -1) hx hb dX3_readInto_46 (by decide) ?_
  obtain rfl := Option.some.inj hf
  subst hQ
  exact en_i hx hb hr hP hS hlocks dX3_readInto_47
