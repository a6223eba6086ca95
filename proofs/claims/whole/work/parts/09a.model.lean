def f_X5_in (fu : Nat)  (p0 : Int32) (p1 : Int32) (p2 : Int32) : Option (Bool) :=
jn (some (false)
) fun K14_7 =>
if p0 < p1 then (
K14_7 
)
else (
if p2 < p0 then (
K14_7 
)
else (
some (true)
)
)

abbrev rm_X5_in : Room := { frames := 0, cells := 0, slots := 0, locals := 0 }
set_option maxHeartbeats 4000000 in
set_option maxRecDepth 100000 in
theorem c_X5_in (l : Launch) (D : va_G) (cT : Nat → ClassId) (g : Nat → Nat) (fu : Nat)  (p0 : Int32) (p1 : Int32) (p2 : Int32) (o : Bool) (hf : f_X5_in fu  p0 p1 p2 = some o) (sz : Nat) : Met l yX5_in wsX5_in rm_X5_in (va_Pc [.int p0, .int p1, .int p2] (PRE D cT sz (List.flatten []))) (QI D (bI o) (List.flatten []) (va_A (List.flatten []) sz)) 0 0 (va_A (List.flatten []) sz) := by
  refine Met.ofW (cc := cX5_in) (maxL := 3) (ret := (some .boolean)) (by decide) rfl ?_
  intro p e s m args below meth c s₁ B0 hml hv
  obtain ⟨hav, hsz, hP, hK, hD, hN, hZ⟩ := hv
  have hx := B0.exec
  have hb := B0.bytes
  have hr := B0.returns
  have hts := atoms_spec (ws := wsX5_in) B0.pre
  have hown : s.vm.findClass RX5 = some m.cls := findClass_of_methodNamed B0.named
  have hlocks := B0.notSynchronized
  subst hsz
  have hD := hD.self (sz := s.heap.size)
  have hA : ∀ q : Nat, s.heap.size ≤ q → va_A (List.flatten []) s.heap.size q := fun q h => Or.inr h
  generalize va_A (List.flatten []) s.heap.size = A at hD hZ hA ⊢
  have hS : va_S A s.heap s.heap [] := va_S.rf
  have hl := lv_entry ([.int p0, .int p1, .int p2]) (n := 3) (Nat.le_of_ble_eq_true rfl)
  rw [hav]
  rw [lg_entry_eq]
  generalize (lg_sl ([.int p0, .int p1, .int p2]) ++ List.replicate (3 - (lg_sl ([.int p0, .int p1, .int p2])).length) Slot.unset).toArray = ls at hl ⊢
  have hl : lv_has ls 3 [(0, .int p0), (1, .int p1), (2, .int p2)] := hl
  rw [← hav]
  generalize hQ : MQ below _ _ _ _ _ _ = Q
  show W p l e rm_X5_in s m args below meth c s.heap [] 0 0 Q (F0 m 0 ls [])
  unfold f_X5_in at hf
  refine lv_iload_n hx hb dX5_in_0 rfl (lv_at hl 0 rfl) ?_
  refine lv_iload_n hx hb dX5_in_1 rfl (lv_at hl 1 rfl) ?_
  obtain ⟨K14_7, eK14_7, hf⟩ := jn_i hf
  have hK14_7 : ∀  (H : Heap) (locs : List Loc) (ls : Array Slot), K14_7  = some o → va_P D vwCl (List.flatten []) H → va_S A s.heap H locs → lv_has ls 3 [] → W p l e rm_X5_in s m args below meth c H locs 0 0 Q (F0 m 14 ls []) := by
    intro  H locs ls hf hP hS hl
    rw [eK14_7] at hf
    refine lv_iconst (v := 0) hx hb dX5_in_14 (by decide) ?_
    obtain rfl := Option.some.inj hf
    subst hQ
    exact en_z (v := false) hx hb hr hP hS hlocks dX5_in_15
  clear eK14_7
  refine lv_icmp_lt (tgt := 14) hx hb dX5_in_2 (by decide) (fun c8 => ?_) (fun c8 => ?_)
  · replace hf := it_t hf c8
    exact hK14_7  _ _ _ hf hP hS (lv_sub hl [] rfl)
  · replace hf := it_f hf c8
    refine lv_iload_n hx hb dX5_in_5 rfl (lv_at hl 0 rfl) ?_
    refine lv_iload_n hx hb dX5_in_6 rfl (lv_at hl 2 rfl) ?_
    refine lv_icmp_gt (tgt := 14) hx hb dX5_in_7 (by decide) (fun c9 => ?_) (fun c9 => ?_)
    · replace hf := it_t hf c9
      exact hK14_7  _ _ _ hf hP hS (lv_sub hl [] rfl)
    · replace hf := it_f hf c9
      refine lv_iconst (v := 1) hx hb dX5_in_10 (by decide) ?_
      refine lv_goto (tgt := 15) hx hb dX5_in_11 (by decide) ?_
      obtain rfl := Option.some.inj hf
      subst hQ
      exact en_z (v := true) hx hb hr hP hS hlocks dX5_in_15
def f_X5_lesser (fu : Nat)  (p0 : Int32) (p1 : Int32) : Option (Int32) :=
if p1 ≤ p0 then (
some (p1)
)
else (
some (p0)
)

abbrev rm_X5_lesser : Room := { frames := 0, cells := 0, slots := 0, locals := 0 }
set_option maxHeartbeats 4000000 in
set_option maxRecDepth 100000 in
theorem c_X5_lesser (l : Launch) (D : va_G) (cT : Nat → ClassId) (g : Nat → Nat) (fu : Nat)  (p0 : Int32) (p1 : Int32) (o : Int32) (hf : f_X5_lesser fu  p0 p1 = some o) (sz : Nat) : Met l yX5_lesser wsX5_lesser rm_X5_lesser (va_Pc [.int p0, .int p1] (PRE D cT sz (List.flatten []))) (QI D o (List.flatten []) (va_A (List.flatten []) sz)) 0 0 (va_A (List.flatten []) sz) := by
  refine Met.ofW (cc := cX5_lesser) (maxL := 2) (ret := (some .int)) (by decide) rfl ?_
  intro p e s m args below meth c s₁ B0 hml hv
  obtain ⟨hav, hsz, hP, hK, hD, hN, hZ⟩ := hv
  have hx := B0.exec
  have hb := B0.bytes
  have hr := B0.returns
  have hts := atoms_spec (ws := wsX5_lesser) B0.pre
  have hown : s.vm.findClass RX5 = some m.cls := findClass_of_methodNamed B0.named
  have hlocks := B0.notSynchronized
  subst hsz
  have hD := hD.self (sz := s.heap.size)
  have hA : ∀ q : Nat, s.heap.size ≤ q → va_A (List.flatten []) s.heap.size q := fun q h => Or.inr h
  generalize va_A (List.flatten []) s.heap.size = A at hD hZ hA ⊢
  have hS : va_S A s.heap s.heap [] := va_S.rf
  have hl := lv_entry ([.int p0, .int p1]) (n := 2) (Nat.le_of_ble_eq_true rfl)
  rw [hav]
  rw [lg_entry_eq]
  generalize (lg_sl ([.int p0, .int p1]) ++ List.replicate (2 - (lg_sl ([.int p0, .int p1])).length) Slot.unset).toArray = ls at hl ⊢
  have hl : lv_has ls 2 [(0, .int p0), (1, .int p1)] := hl
  rw [← hav]
  generalize hQ : MQ below _ _ _ _ _ _ = Q
  show W p l e rm_X5_lesser s m args below meth c s.heap [] 0 0 Q (F0 m 0 ls [])
  unfold f_X5_lesser at hf
  refine lv_iload_n hx hb dX5_lesser_0 rfl (lv_at hl 0 rfl) ?_
  refine lv_iload_n hx hb dX5_lesser_1 rfl (lv_at hl 1 rfl) ?_
  refine lv_icmp_ge (tgt := 9) hx hb dX5_lesser_2 (by decide) (fun c2 => ?_) (fun c2 => ?_)
  · replace hf := it_t hf c2
    refine lv_iload_n hx hb dX5_lesser_9 rfl (lv_at hl 1 rfl) ?_
    obtain rfl := Option.some.inj hf
    subst hQ
    exact en_i hx hb hr hP hS hlocks dX5_lesser_10
  · replace hf := it_f hf c2
    refine lv_iload_n hx hb dX5_lesser_5 rfl (lv_at hl 0 rfl) ?_
    refine lv_goto (tgt := 10) hx hb dX5_lesser_6 (by decide) ?_
    obtain rfl := Option.some.inj hf
    subst hQ
    exact en_i hx hb hr hP hS hlocks dX5_lesser_10
def f_X5_greater (fu : Nat)  (p0 : Int32) (p1 : Int32) : Option (Int32) :=
if p0 ≤ p1 then (
some (p1)
)
else (
some (p0)
)

abbrev rm_X5_greater : Room := { frames := 0, cells := 0, slots := 0, locals := 0 }
set_option maxHeartbeats 4000000 in
set_option maxRecDepth 100000 in
theorem c_X5_greater (l : Launch) (D : va_G) (cT : Nat → ClassId) (g : Nat → Nat) (fu : Nat)  (p0 : Int32) (p1 : Int32) (o : Int32) (hf : f_X5_greater fu  p0 p1 = some o) (sz : Nat) : Met l yX5_greater wsX5_greater rm_X5_greater (va_Pc [.int p0, .int p1] (PRE D cT sz (List.flatten []))) (QI D o (List.flatten []) (va_A (List.flatten []) sz)) 0 0 (va_A (List.flatten []) sz) := by
  refine Met.ofW (cc := cX5_greater) (maxL := 2) (ret := (some .int)) (by decide) rfl ?_
  intro p e s m args below meth c s₁ B0 hml hv
  obtain ⟨hav, hsz, hP, hK, hD, hN, hZ⟩ := hv
  have hx := B0.exec
  have hb := B0.bytes
  have hr := B0.returns
  have hts := atoms_spec (ws := wsX5_greater) B0.pre
  have hown : s.vm.findClass RX5 = some m.cls := findClass_of_methodNamed B0.named
  have hlocks := B0.notSynchronized
  subst hsz
  have hD := hD.self (sz := s.heap.size)
  have hA : ∀ q : Nat, s.heap.size ≤ q → va_A (List.flatten []) s.heap.size q := fun q h => Or.inr h
  generalize va_A (List.flatten []) s.heap.size = A at hD hZ hA ⊢
  have hS : va_S A s.heap s.heap [] := va_S.rf
  have hl := lv_entry ([.int p0, .int p1]) (n := 2) (Nat.le_of_ble_eq_true rfl)
  rw [hav]
  rw [lg_entry_eq]
  generalize (lg_sl ([.int p0, .int p1]) ++ List.replicate (2 - (lg_sl ([.int p0, .int p1])).length) Slot.unset).toArray = ls at hl ⊢
  have hl : lv_has ls 2 [(0, .int p0), (1, .int p1)] := hl
  rw [← hav]
  generalize hQ : MQ below _ _ _ _ _ _ = Q
  show W p l e rm_X5_greater s m args below meth c s.heap [] 0 0 Q (F0 m 0 ls [])
  unfold f_X5_greater at hf
  refine lv_iload_n hx hb dX5_greater_0 rfl (lv_at hl 0 rfl) ?_
  refine lv_iload_n hx hb dX5_greater_1 rfl (lv_at hl 1 rfl) ?_
  refine lv_icmp_le (tgt := 9) hx hb dX5_greater_2 (by decide) (fun c2 => ?_) (fun c2 => ?_)
  · replace hf := it_t hf c2
    refine lv_iload_n hx hb dX5_greater_9 rfl (lv_at hl 1 rfl) ?_
    obtain rfl := Option.some.inj hf
    subst hQ
    exact en_i hx hb hr hP hS hlocks dX5_greater_10
  · replace hf := it_f hf c2
    refine lv_iload_n hx hb dX5_greater_5 rfl (lv_at hl 0 rfl) ?_
    refine lv_goto (tgt := 10) hx hb dX5_greater_6 (by decide) ?_
    obtain rfl := Option.some.inj hf
    subst hQ
    exact en_i hx hb hr hP hS hlocks dX5_greater_10
def f_X5_size (fu : Nat)  (p0 : Int32) : Option (Int32) :=
if 0 ≤ p0 then (
some (p0)
)
else (
nm (-p0) fun (x4 : Int32) =>
some (x4)
)

abbrev rm_X5_size : Room := { frames := 0, cells := 0, slots := 0, locals := 0 }
set_option maxHeartbeats 4000000 in
set_option maxRecDepth 100000 in
theorem c_X5_size (l : Launch) (D : va_G) (cT : Nat → ClassId) (g : Nat → Nat) (fu : Nat)  (p0 : Int32) (o : Int32) (hf : f_X5_size fu  p0 = some o) (sz : Nat) : Met l yX5_size wsX5_size rm_X5_size (va_Pc [.int p0] (PRE D cT sz (List.flatten []))) (QI D o (List.flatten []) (va_A (List.flatten []) sz)) 0 0 (va_A (List.flatten []) sz) := by
  refine Met.ofW (cc := cX5_size) (maxL := 1) (ret := (some .int)) (by decide) rfl ?_
  intro p e s m args below meth c s₁ B0 hml hv
  obtain ⟨hav, hsz, hP, hK, hD, hN, hZ⟩ := hv
  have hx := B0.exec
  have hb := B0.bytes
  have hr := B0.returns
  have hts := atoms_spec (ws := wsX5_size) B0.pre
  have hown : s.vm.findClass RX5 = some m.cls := findClass_of_methodNamed B0.named
  have hlocks := B0.notSynchronized
  subst hsz
  have hD := hD.self (sz := s.heap.size)
  have hA : ∀ q : Nat, s.heap.size ≤ q → va_A (List.flatten []) s.heap.size q := fun q h => Or.inr h
  generalize va_A (List.flatten []) s.heap.size = A at hD hZ hA ⊢
  have hS : va_S A s.heap s.heap [] := va_S.rf
  have hl := lv_entry ([.int p0]) (n := 1) (Nat.le_of_ble_eq_true rfl)
  rw [hav]
  rw [lg_entry_eq]
  generalize (lg_sl ([.int p0]) ++ List.replicate (1 - (lg_sl ([.int p0])).length) Slot.unset).toArray = ls at hl ⊢
  have hl : lv_has ls 1 [(0, .int p0)] := hl
  rw [← hav]
  generalize hQ : MQ below _ _ _ _ _ _ = Q
  show W p l e rm_X5_size s m args below meth c s.heap [] 0 0 Q (F0 m 0 ls [])
  unfold f_X5_size at hf
  refine lv_iload_n hx hb dX5_size_0 rfl (lv_at hl 0 rfl) ?_
  refine lv_if_ge (tgt := 9) hx hb dX5_size_1 (by decide) (fun c3 => ?_) (fun c3 => ?_)
  · replace hf := it_t hf c3
    refine lv_iload_n hx hb dX5_size_9 rfl (lv_at hl 0 rfl) ?_
    obtain rfl := Option.some.inj hf
    subst hQ
    exact en_i hx hb hr hP hS hlocks dX5_size_10
  · replace hf := it_f hf c3
    refine lv_iload_n hx hb dX5_size_4 rfl (lv_at hl 0 rfl) ?_
    refine lv_ineg hx hb dX5_size_5 ?_
    refine lv_topi (fun x4 ex4 => ?_)
    replace hf := nm_i hf ex4
    refine lv_goto (tgt := 10) hx hb dX5_size_6 (by decide) ?_
    obtain rfl := Option.some.inj hf
    subst hQ
    exact en_i hx hb hr hP hS hlocks dX5_size_10
theorem iw_X5_notes_X5 : ∀ w ∈ u_ws RX5 TX5 12, w ∈ wsX5_notes := by decide +kernel
def lb_X5_notes_52 (fu : Nat)  (rec : Int32 → TM → Option (TM)) (v116 : Int32) (u117 : TM) : Option (TM) :=
if (281 : Int32) ≤ v116 then (
some (u117)
)
else (
nm (M_ps u117) fun (x121 : Int32) =>
nm ((281 : Int32) * x121) fun (x122 : Int32) =>
nm (x122 + v116) fun (x123 : Int32) =>
ix v116 281 <|
nm ((M_ss u117) v116.toNatClampNeg) fun (x125 : Int32) =>
ix x123 1686 <|
nm (M_pa_ u117 (upd (M_pa u117) x123.toNatClampNeg x125)) fun (u127 : TM) =>
nm (v116 + (1 : Int32)) fun (x128 : Int32) =>
rec x128 u127
)

def lf_X5_notes_52 (fu : Nat)  : Nat → Int32 → TM → Option (TM) := lq_2 (lb_X5_notes_52 fu )
def lb_X5_notes_11 (fu : Nat)  (rec : Int32 → TM → Option (TM)) (v142 : Int32) (u143 : TM) : Option (TM) :=
if (1405 : Int32) ≤ v142 then (
some (u143)
)
else (
nm (v142 + (281 : Int32)) fun (x147 : Int32) =>
ix x147 1686 <|
nm ((M_pa u143) x147.toNatClampNeg) fun (x149 : Int32) =>
ix v142 1686 <|
nm (M_pa_ u143 (upd (M_pa u143) v142.toNatClampNeg x149)) fun (u151 : TM) =>
nm (v142 + (1 : Int32)) fun (x152 : Int32) =>
rec x152 u151
)

def lf_X5_notes_11 (fu : Nat)  : Nat → Int32 → TM → Option (TM) := lq_2 (lb_X5_notes_11 fu )
def f_X5_notes (fu : Nat) (u_mo : TM)  : Option (TM) :=
nm (M_ps u_mo) fun (x69 : Int32) =>
jn (fun (u86 : TM) =>
bd (lf_X5_notes_52 fu  fu ((0 : Int32)) u86) fun (z119 : TM) =>
nm (M_ps z119) fun (x129 : Int32) =>
nm (x129 + (1 : Int32)) fun (x130 : Int32) =>
nm (M_ps_ z119 x130) fun (u131 : TM) =>
some (u131)
) fun K50_104 =>
if ¬ x69 = (6 : Int32) then (
K50_104 u_mo
)
else (
bd (lf_X5_notes_11 fu  fu ((0 : Int32)) u_mo) fun (z145 : TM) =>
nm (M_ps z145) fun (x153 : Int32) =>
nm (x153 - (1 : Int32)) fun (x154 : Int32) =>
nm (M_ps_ z145 x154) fun (u155 : TM) =>
K50_104 u155
)

abbrev rm_X5_notes : Room := { frames := 0, cells := 0, slots := 0, locals := 0 }
set_option maxHeartbeats 4000000 in
set_option maxRecDepth 100000 in
theorem c_X5_notes (l : Launch) (D : va_G) (cT : Nat → ClassId) (g : Nat → Nat) (b : Nat) (fu : Nat) (u_mo : TM)  (o : TM) (hf : f_X5_notes fu u_mo  = some o) (sz : Nat) : Met l yX5_notes wsX5_notes rm_X5_notes (va_Pc [.ref (g b)] (PRE D cT sz (List.flatten [wM cT g b u_mo]))) (QV D (List.flatten [wM cT g b o]) (va_A (List.flatten [wM cT g b u_mo]) sz)) 0 0 (va_A (List.flatten [wM cT g b u_mo]) sz) := by
  refine Met.ofW (cc := cX5_notes) (maxL := 2) (ret := none) (by decide) rfl ?_
  intro p e s m args below meth c s₁ B0 hml hv
  obtain ⟨hav, hsz, hP, hK, hD, hN, hZ⟩ := hv
  have hx := B0.exec
  have hb := B0.bytes
  have hr := B0.returns
  have hts := atoms_spec (ws := wsX5_notes) B0.pre
  have hown : s.vm.findClass RX5 = some m.cls := findClass_of_methodNamed B0.named
  have hlocks := B0.notSynchronized
  subst hsz
  have hD := hD.self (sz := s.heap.size)
  have hA : ∀ q : Nat, s.heap.size ≤ q → va_A (List.flatten [wM cT g b u_mo]) s.heap.size q := fun q h => Or.inr h
  generalize va_A (List.flatten [wM cT g b u_mo]) s.heap.size = A at hD hZ hA ⊢
  have hS : va_S A s.heap s.heap [] := va_S.rf
  have hl := lv_entry ([.ref (g b)]) (n := 2) (Nat.le_of_ble_eq_true rfl)
  rw [hav]
  rw [lg_entry_eq]
  generalize (lg_sl ([.ref (g b)]) ++ List.replicate (2 - (lg_sl ([.ref (g b)])).length) Slot.unset).toArray = ls at hl ⊢
  have hl : lv_has ls 2 [(0, .ref (g b))] := hl
  rw [← hav]
  generalize hQ : MQ below _ _ _ _ _ _ = Q
  show W p l e rm_X5_notes s m args below meth c s.heap [] 0 0 Q (F0 m 0 ls [])
  unfold f_X5_notes at hf
  refine lv_aload_n hx hb dX5_notes_0 rfl (lv_at hl 0 rfl) ?_
  refine va_get (ci := 5) (v := .int (M_ps u_mo)) (C := RX5) (T := TX5) (N := 12) hx hb hts iw_X5_notes_X5 hown hK hP 0 rfl rfl 2 (by decide) (hts (.fieldLink RX5 32 "BallastTrackModel" "pasts" "I") (List.mem_of_getElem? (i := 1) rfl)) (fun _ h9 => h9) rfl dX5_notes_1 ?_
  refine lv_topi (fun x69 ex69 => ?_)
  replace hf := nm_i hf ex69
  refine lv_bipush (v := 6) hx hb dX5_notes_4 (by decide) ?_
  obtain ⟨K50_104, eK50_104, hf⟩ := jn_i hf
  have hK50_104 : ∀ (u86 : TM) (H : Heap) (locs : List Loc) (ls : Array Slot), K50_104 u86 = some o → va_P D vwCl (List.flatten [wM cT g b u86]) H → va_S A s.heap H locs → lv_has ls 2 [(0, .ref (g b))] → W p l e rm_X5_notes s m args below meth c H locs 0 0 Q (F0 m 50 ls []) := by
    intro u86 H locs ls hf hP hS hl
    rw [eK50_104] at hf
    refine lv_iconst (v := 0) hx hb dX5_notes_50 (by decide) ?_
    refine lv_istore_n (lv' := [(1, .int ((0 : Int32))), (0, .ref (g b))]) hx hb dX5_notes_51 rfl hl (by decide) rfl (fun ls hl => ?_)
    obtain ⟨z119, hz119, hf⟩ := bd_i hf
    have hL52 : ∀ (n : Nat) (v116 : Int32) (u117 : TM) (z118 : TM), lf_X5_notes_52 fu  n v116 u117 = some z118 → ∀ (H : Heap) (locs : List Loc) (ls : Array Slot), va_P D vwCl (List.flatten [wM cT g b u117]) H → va_S A s.heap H locs → lv_has ls 2 [(0, .ref (g b)), (1, .int v116)] → (∀ (H : Heap) (locs : List Loc) (ls : Array Slot), va_P D vwCl (List.flatten [wM cT g b z118]) H → va_S A s.heap H locs → lv_has ls 2 [(0, .ref (g b))] → W p l e rm_X5_notes s m args below meth c H locs 0 0 Q (F0 m 86 ls [])) → W p l e rm_X5_notes s m args below meth c H locs 0 0 Q (F0 m 52 ls []) := by
      refine lq_2_ind (F := lb_X5_notes_52 fu ) (fun rec ih v116 u117 z118 hf H locs ls hP hS hl kx => ?_)
      unfold lb_X5_notes_52 at hf
      refine lv_iload_n hx hb dX5_notes_52 rfl (lv_at hl 1 rfl) ?_
      refine lv_sipush (v := 281) hx hb dX5_notes_53 (by decide) ?_
      refine lv_icmp_ge (tgt := 86) hx hb dX5_notes_56 (by decide) (fun c120 => ?_) (fun c120 => ?_)
      · replace hf := it_t hf c120
        obtain rfl := Option.some.inj hf
        exact kx _ _ _ hP hS (lv_sub hl [0] rfl)
      · replace hf := it_f hf c120
        refine lv_aload_n hx hb dX5_notes_59 rfl (lv_at hl 0 rfl) ?_
        refine va_get (ci := 5) (v := .ref (g (b + 2))) (C := RX5) (T := TX5) (N := 12) hx hb hts iw_X5_notes_X5 hown hK hP 0 rfl rfl 1 (by decide) (hts (.fieldLink RX5 13 "BallastTrackModel" "past" "[I") (List.mem_of_getElem? (i := 2) rfl)) (fun _ h9 => h9) rfl dX5_notes_60 ?_
        refine lv_sipush (v := 281) hx hb dX5_notes_63 (by decide) ?_
        refine lv_aload_n hx hb dX5_notes_66 rfl (lv_at hl 0 rfl) ?_
        refine va_get (ci := 5) (v := .int (M_ps u117)) (C := RX5) (T := TX5) (N := 12) hx hb hts iw_X5_notes_X5 hown hK hP 0 rfl rfl 2 (by decide) (hts (.fieldLink RX5 32 "BallastTrackModel" "pasts" "I") (List.mem_of_getElem? (i := 1) rfl)) (fun _ h9 => h9) rfl dX5_notes_67 ?_
        refine lv_topi (fun x121 ex121 => ?_)
        replace hf := nm_i hf ex121
        refine lv_imul hx hb dX5_notes_70 ?_
        refine lv_topi (fun x122 ex122 => ?_)
        replace hf := nm_i hf ex122
        refine lv_iload_n hx hb dX5_notes_71 rfl (lv_at hl 1 rfl) ?_
        refine lv_iadd hx hb dX5_notes_72 ?_
        refine lv_topi (fun x123 ex123 => ?_)
        replace hf := nm_i hf ex123
        refine lv_aload_n hx hb dX5_notes_73 rfl (lv_at hl 0 rfl) ?_
        refine va_get (ci := 5) (v := .ref (g (b + 1))) (C := RX5) (T := TX5) (N := 12) hx hb hts iw_X5_notes_X5 hown hK hP 0 rfl rfl 0 (by decide) (hts (.fieldLink RX5 7 "BallastTrackModel" "s" "[I") (List.mem_of_getElem? (i := 3) rfl)) (fun _ h9 => h9) rfl dX5_notes_74 ?_
        refine lv_iload_n hx hb dX5_notes_77 rfl (lv_at hl 1 rfl) ?_
        obtain ⟨hi124, hf⟩ := ix_i hf
        refine va_iald hx hb hK hP 1 0 rfl rfl hi124 dX5_notes_78 ?_
        refine lv_topi (fun x125 ex125 => ?_)
        replace hf := nm_i hf ex125
        obtain ⟨hi126, hf⟩ := ix_i hf
        refine va_iast hx hb hK hP (va_D_adr hD rfl) hS 2 0 rfl rfl hi126 dX5_notes_79 (fun H locs hP _ hS => ?_)
        obtain ⟨u127, eu127⟩ : ∃ z : TM, z = M_pa_ u117 (upd (M_pa u117) x123.toNatClampNeg x125) := ⟨_, rfl⟩
        replace hf := nm_i hf eu127
        have hP : va_P D vwCl (List.flatten [wM cT g b u127]) H := by rw [eu127]; exact hP
        obtain ⟨x128, ex128⟩ : ∃ z : Int32, z = v116 + (1 : Int32) := ⟨_, rfl⟩
        replace hf := nm_i hf ex128
        refine lv_iinc (v := x128) (lv' := [(1, .int x128), (0, .ref (g b))]) hx hb dX5_notes_80 hl (k := 1) rfl (by rw [ex128]; rfl) (by decide) rfl (fun ls hl => ?_)
        refine lv_goto (tgt := 52) hx hb dX5_notes_83 (by decide) ?_
        exact ih _ _ _ hf _ _ _ hP hS (lv_sub hl [1, 0] rfl) kx
    refine hL52 fu _ _ _ hz119 _ _ _ hP hS (lv_sub hl [1, 0] rfl) (fun H locs ls hP hS hl => ?_)
    refine lv_aload_n hx hb dX5_notes_86 rfl (lv_at hl 0 rfl) ?_
    refine lv_dup hx hb dX5_notes_87 rfl ?_
    refine va_get (ci := 5) (v := .int (M_ps z119)) (C := RX5) (T := TX5) (N := 12) hx hb hts iw_X5_notes_X5 hown hK hP 0 rfl rfl 2 (by decide) (hts (.fieldLink RX5 32 "BallastTrackModel" "pasts" "I") (List.mem_of_getElem? (i := 1) rfl)) (fun _ h9 => h9) rfl dX5_notes_88 ?_
    refine lv_topi (fun x129 ex129 => ?_)
    replace hf := nm_i hf ex129
    refine lv_iconst (v := 1) hx hb dX5_notes_91 (by decide) ?_
    refine lv_iadd hx hb dX5_notes_92 ?_
    refine lv_topi (fun x130 ex130 => ?_)
    replace hf := nm_i hf ex130
    refine va_put (ci := 5) (v := .int x130) (ty := .int) (C := RX5) (T := TX5) (N := 12) hx hb hts iw_X5_notes_X5 tyX5 tyX5_ok nmX5 hown hK hP (va_D_adr hD rfl) hS 0 rfl rfl 2 (by decide) (hts (.fieldLink RX5 32 "BallastTrackModel" "pasts" "I") (List.mem_of_getElem? (i := 1) rfl)) (fun _ h9 => h9) rfl (by decide +kernel) rfl rfl (Nat.le_of_ble_eq_true rfl) dX5_notes_93 (fun H locs hP _ hS => ?_)
    obtain ⟨u131, eu131⟩ : ∃ z : TM, z = M_ps_ z119 x130 := ⟨_, rfl⟩
    replace hf := nm_i hf eu131
    have hP : va_P D vwCl (List.flatten [wM cT g b u131]) H := by rw [eu131]; exact hP
    obtain rfl := Option.some.inj hf
    subst hQ
    exact en_v hx hb hr hP hS hlocks dX5_notes_96
  clear eK50_104
  refine lv_icmp_ne (tgt := 50) hx hb dX5_notes_6 (by decide) (fun c132 => ?_) (fun c132 => ?_)
  · replace hf := it_t hf c132
    exact hK50_104 _ _ _ _ hf hP hS (lv_sub hl [0] rfl)
  · replace hf := it_f hf (not_not_intro c132)
    refine lv_iconst (v := 0) hx hb dX5_notes_9 (by decide) ?_
    refine lv_istore_n (lv' := [(1, .int ((0 : Int32))), (0, .ref (g b))]) hx hb dX5_notes_10 rfl hl (by decide) rfl (fun ls hl => ?_)
    obtain ⟨z145, hz145, hf⟩ := bd_i hf
    have hL11 : ∀ (n : Nat) (v142 : Int32) (u143 : TM) (z144 : TM), lf_X5_notes_11 fu  n v142 u143 = some z144 → ∀ (H : Heap) (locs : List Loc) (ls : Array Slot), va_P D vwCl (List.flatten [wM cT g b u143]) H → va_S A s.heap H locs → lv_has ls 2 [(0, .ref (g b)), (1, .int v142)] → (∀ (H : Heap) (locs : List Loc) (ls : Array Slot), va_P D vwCl (List.flatten [wM cT g b z144]) H → va_S A s.heap H locs → lv_has ls 2 [(0, .ref (g b))] → W p l e rm_X5_notes s m args below meth c H locs 0 0 Q (F0 m 40 ls [])) → W p l e rm_X5_notes s m args below meth c H locs 0 0 Q (F0 m 11 ls []) := by
      refine lq_2_ind (F := lb_X5_notes_11 fu ) (fun rec ih v142 u143 z144 hf H locs ls hP hS hl kx => ?_)
      unfold lb_X5_notes_11 at hf
      refine lv_iload_n hx hb dX5_notes_11 rfl (lv_at hl 1 rfl) ?_
      refine lv_sipush (v := 1405) hx hb dX5_notes_12 (by decide) ?_
      refine lv_icmp_ge (tgt := 40) hx hb dX5_notes_15 (by decide) (fun c146 => ?_) (fun c146 => ?_)
      · replace hf := it_t hf c146
        obtain rfl := Option.some.inj hf
        exact kx _ _ _ hP hS (lv_sub hl [0] rfl)
      · replace hf := it_f hf c146
        refine lv_aload_n hx hb dX5_notes_18 rfl (lv_at hl 0 rfl) ?_
        refine va_get (ci := 5) (v := .ref (g (b + 2))) (C := RX5) (T := TX5) (N := 12) hx hb hts iw_X5_notes_X5 hown hK hP 0 rfl rfl 1 (by decide) (hts (.fieldLink RX5 13 "BallastTrackModel" "past" "[I") (List.mem_of_getElem? (i := 2) rfl)) (fun _ h9 => h9) rfl dX5_notes_19 ?_
        refine lv_iload_n hx hb dX5_notes_22 rfl (lv_at hl 1 rfl) ?_
        refine lv_aload_n hx hb dX5_notes_23 rfl (lv_at hl 0 rfl) ?_
        refine va_get (ci := 5) (v := .ref (g (b + 2))) (C := RX5) (T := TX5) (N := 12) hx hb hts iw_X5_notes_X5 hown hK hP 0 rfl rfl 1 (by decide) (hts (.fieldLink RX5 13 "BallastTrackModel" "past" "[I") (List.mem_of_getElem? (i := 2) rfl)) (fun _ h9 => h9) rfl dX5_notes_24 ?_
        refine lv_iload_n hx hb dX5_notes_27 rfl (lv_at hl 1 rfl) ?_
        refine lv_sipush (v := 281) hx hb dX5_notes_28 (by decide) ?_
        refine lv_iadd hx hb dX5_notes_31 ?_
        refine lv_topi (fun x147 ex147 => ?_)
        replace hf := nm_i hf ex147
        obtain ⟨hi148, hf⟩ := ix_i hf
        refine va_iald hx hb hK hP 2 0 rfl rfl hi148 dX5_notes_32 ?_
        refine lv_topi (fun x149 ex149 => ?_)
        replace hf := nm_i hf ex149
        obtain ⟨hi150, hf⟩ := ix_i hf
        refine va_iast hx hb hK hP (va_D_adr hD rfl) hS 2 0 rfl rfl hi150 dX5_notes_33 (fun H locs hP _ hS => ?_)
        obtain ⟨u151, eu151⟩ : ∃ z : TM, z = M_pa_ u143 (upd (M_pa u143) v142.toNatClampNeg x149) := ⟨_, rfl⟩
        replace hf := nm_i hf eu151
        have hP : va_P D vwCl (List.flatten [wM cT g b u151]) H := by rw [eu151]; exact hP
        obtain ⟨x152, ex152⟩ : ∃ z : Int32, z = v142 + (1 : Int32) := ⟨_, rfl⟩
        replace hf := nm_i hf ex152
        refine lv_iinc (v := x152) (lv' := [(1, .int x152), (0, .ref (g b))]) hx hb dX5_notes_34 hl (k := 1) rfl (by rw [ex152]; rfl) (by decide) rfl (fun ls hl => ?_)
        refine lv_goto (tgt := 11) hx hb dX5_notes_37 (by decide) ?_
        exact ih _ _ _ hf _ _ _ hP hS (lv_sub hl [1, 0] rfl) kx
    refine hL11 fu _ _ _ hz145 _ _ _ hP hS (lv_sub hl [1, 0] rfl) (fun H locs ls hP hS hl => ?_)
    refine lv_aload_n hx hb dX5_notes_40 rfl (lv_at hl 0 rfl) ?_
    refine lv_dup hx hb dX5_notes_41 rfl ?_
    refine va_get (ci := 5) (v := .int (M_ps z145)) (C := RX5) (T := TX5) (N := 12) hx hb hts iw_X5_notes_X5 hown hK hP 0 rfl rfl 2 (by decide) (hts (.fieldLink RX5 32 "BallastTrackModel" "pasts" "I") (List.mem_of_getElem? (i := 1) rfl)) (fun _ h9 => h9) rfl dX5_notes_42 ?_
    refine lv_topi (fun x153 ex153 => ?_)
    replace hf := nm_i hf ex153
    refine lv_iconst (v := 1) hx hb dX5_notes_45 (by decide) ?_
    refine lv_isub hx hb dX5_notes_46 ?_
    refine lv_topi (fun x154 ex154 => ?_)
    replace hf := nm_i hf ex154
    refine va_put (ci := 5) (v := .int x154) (ty := .int) (C := RX5) (T := TX5) (N := 12) hx hb hts iw_X5_notes_X5 tyX5 tyX5_ok nmX5 hown hK hP (va_D_adr hD rfl) hS 0 rfl rfl 2 (by decide) (hts (.fieldLink RX5 32 "BallastTrackModel" "pasts" "I") (List.mem_of_getElem? (i := 1) rfl)) (fun _ h9 => h9) rfl (by decide +kernel) rfl rfl (Nat.le_of_ble_eq_true rfl) dX5_notes_47 (fun H locs hP _ hS => ?_)
    obtain ⟨u155, eu155⟩ : ∃ z : TM, z = M_ps_ z145 x154 := ⟨_, rfl⟩
    replace hf := nm_i hf eu155
    have hP : va_P D vwCl (List.flatten [wM cT g b u155]) H := by rw [eu155]; exact hP
    exact hK50_104 _ _ _ _ hf hP hS (lv_sub hl [0] rfl)
theorem iw_X5_undo_X5 : ∀ w ∈ u_ws RX5 TX5 12, w ∈ wsX5_undo := by decide +kernel
def lb_X5_undo_22 (fu : Nat)  (rec : Int32 → TM → Option (TM)) (v37 : Int32) (u38 : TM) : Option (TM) :=
if (281 : Int32) ≤ v37 then (
some (u38)
)
else (
nm (M_ps u38) fun (x42 : Int32) =>
nm ((281 : Int32) * x42) fun (x43 : Int32) =>
nm (x43 + v37) fun (x44 : Int32) =>
ix x44 1686 <|
nm ((M_pa u38) x44.toNatClampNeg) fun (x46 : Int32) =>
ix v37 281 <|
nm (M_ss_ u38 (upd (M_ss u38) v37.toNatClampNeg x46)) fun (u48 : TM) =>
nm (v37 + (1 : Int32)) fun (x49 : Int32) =>
rec x49 u48
)

def lf_X5_undo_22 (fu : Nat)  : Nat → Int32 → TM → Option (TM) := lq_2 (lb_X5_undo_22 fu )
def f_X5_undo (fu : Nat) (u_mo : TM)  : Option (Int32 × TM) :=
nm (M_ps u_mo) fun (x21 : Int32) =>
if ¬ x21 = 0 then (
nm (M_ps u_mo) fun (x23 : Int32) =>
nm (x23 - (1 : Int32)) fun (x24 : Int32) =>
nm (M_ps_ u_mo x24) fun (u25 : TM) =>
bd (lf_X5_undo_22 fu  fu ((0 : Int32)) u25) fun (z40 : TM) =>
nm (M_ps z40) fun (x50 : Int32) =>
some (x50, z40)
)
else (
some ((-100002 : Int32), u_mo)
)

abbrev rm_X5_undo : Room := { frames := 0, cells := 0, slots := 0, locals := 0 }
set_option maxHeartbeats 4000000 in
set_option maxRecDepth 100000 in
theorem c_X5_undo (l : Launch) (D : va_G) (cT : Nat → ClassId) (g : Nat → Nat) (b : Nat) (fu : Nat) (u_mo : TM)  (o : Int32 × TM) (hf : f_X5_undo fu u_mo  = some o) (sz : Nat) : Met l yX5_undo wsX5_undo rm_X5_undo (va_Pc [.ref (g b)] (PRE D cT sz (List.flatten [wM cT g b u_mo]))) (QI D o.1 (List.flatten [wM cT g b o.2]) (va_A (List.flatten [wM cT g b u_mo]) sz)) 0 0 (va_A (List.flatten [wM cT g b u_mo]) sz) := by
  refine Met.ofW (cc := cX5_undo) (maxL := 2) (ret := (some .int)) (by decide) rfl ?_
  intro p e s m args below meth c s₁ B0 hml hv
  obtain ⟨hav, hsz, hP, hK, hD, hN, hZ⟩ := hv
  have hx := B0.exec
  have hb := B0.bytes
  have hr := B0.returns
  have hts := atoms_spec (ws := wsX5_undo) B0.pre
  have hown : s.vm.findClass RX5 = some m.cls := findClass_of_methodNamed B0.named
  have hlocks := B0.notSynchronized
  subst hsz
  have hD := hD.self (sz := s.heap.size)
  have hA : ∀ q : Nat, s.heap.size ≤ q → va_A (List.flatten [wM cT g b u_mo]) s.heap.size q := fun q h => Or.inr h
  generalize va_A (List.flatten [wM cT g b u_mo]) s.heap.size = A at hD hZ hA ⊢
  have hS : va_S A s.heap s.heap [] := va_S.rf
  have hl := lv_entry ([.ref (g b)]) (n := 2) (Nat.le_of_ble_eq_true rfl)
  rw [hav]
  rw [lg_entry_eq]
  generalize (lg_sl ([.ref (g b)]) ++ List.replicate (2 - (lg_sl ([.ref (g b)])).length) Slot.unset).toArray = ls at hl ⊢
  have hl : lv_has ls 2 [(0, .ref (g b))] := hl
  rw [← hav]
  generalize hQ : MQ below _ _ _ _ _ _ = Q
  show W p l e rm_X5_undo s m args below meth c s.heap [] 0 0 Q (F0 m 0 ls [])
  unfold f_X5_undo at hf
  refine lv_aload_n hx hb dX5_undo_0 rfl (lv_at hl 0 rfl) ?_
  refine va_get (ci := 5) (v := .int (M_ps u_mo)) (C := RX5) (T := TX5) (N := 12) hx hb hts iw_X5_undo_X5 hown hK hP 0 rfl rfl 2 (by decide) (hts (.fieldLink RX5 32 "BallastTrackModel" "pasts" "I") (List.mem_of_getElem? (i := 1) rfl)) (fun _ h9 => h9) rfl dX5_undo_1 ?_
  refine lv_topi (fun x21 ex21 => ?_)
  replace hf := nm_i hf ex21
  refine lv_if_ne (tgt := 10) hx hb dX5_undo_4 (by decide) (fun c22 => ?_) (fun c22 => ?_)
  · replace hf := it_t hf c22
    refine lv_aload_n hx hb dX5_undo_10 rfl (lv_at hl 0 rfl) ?_
    refine lv_dup hx hb dX5_undo_11 rfl ?_
    refine va_get (ci := 5) (v := .int (M_ps u_mo)) (C := RX5) (T := TX5) (N := 12) hx hb hts iw_X5_undo_X5 hown hK hP 0 rfl rfl 2 (by decide) (hts (.fieldLink RX5 32 "BallastTrackModel" "pasts" "I") (List.mem_of_getElem? (i := 1) rfl)) (fun _ h9 => h9) rfl dX5_undo_12 ?_
    refine lv_topi (fun x23 ex23 => ?_)
    replace hf := nm_i hf ex23
    refine lv_iconst (v := 1) hx hb dX5_undo_15 (by decide) ?_
    refine lv_isub hx hb dX5_undo_16 ?_
    refine lv_topi (fun x24 ex24 => ?_)
    replace hf := nm_i hf ex24
    refine va_put (ci := 5) (v := .int x24) (ty := .int) (C := RX5) (T := TX5) (N := 12) hx hb hts iw_X5_undo_X5 tyX5 tyX5_ok nmX5 hown hK hP (va_D_adr hD rfl) hS 0 rfl rfl 2 (by decide) (hts (.fieldLink RX5 32 "BallastTrackModel" "pasts" "I") (List.mem_of_getElem? (i := 1) rfl)) (fun _ h9 => h9) rfl (by decide +kernel) rfl rfl (Nat.le_of_ble_eq_true rfl) dX5_undo_17 (fun H locs hP _ hS => ?_)
    obtain ⟨u25, eu25⟩ : ∃ z : TM, z = M_ps_ u_mo x24 := ⟨_, rfl⟩
    replace hf := nm_i hf eu25
    have hP : va_P D vwCl (List.flatten [wM cT g b u25]) H := by rw [eu25]; exact hP
    refine lv_iconst (v := 0) hx hb dX5_undo_20 (by decide) ?_
    refine lv_istore_n (lv' := [(1, .int ((0 : Int32))), (0, .ref (g b))]) hx hb dX5_undo_21 rfl hl (by decide) rfl (fun ls hl => ?_)
    obtain ⟨z40, hz40, hf⟩ := bd_i hf
    have hL22 : ∀ (n : Nat) (v37 : Int32) (u38 : TM) (z39 : TM), lf_X5_undo_22 fu  n v37 u38 = some z39 → ∀ (H : Heap) (locs : List Loc) (ls : Array Slot), va_P D vwCl (List.flatten [wM cT g b u38]) H → va_S A s.heap H locs → lv_has ls 2 [(0, .ref (g b)), (1, .int v37)] → (∀ (H : Heap) (locs : List Loc) (ls : Array Slot), va_P D vwCl (List.flatten [wM cT g b z39]) H → va_S A s.heap H locs → lv_has ls 2 [(0, .ref (g b))] → W p l e rm_X5_undo s m args below meth c H locs 0 0 Q (F0 m 56 ls [])) → W p l e rm_X5_undo s m args below meth c H locs 0 0 Q (F0 m 22 ls []) := by
      refine lq_2_ind (F := lb_X5_undo_22 fu ) (fun rec ih v37 u38 z39 hf H locs ls hP hS hl kx => ?_)
      unfold lb_X5_undo_22 at hf
      refine lv_iload_n hx hb dX5_undo_22 rfl (lv_at hl 1 rfl) ?_
      refine lv_sipush (v := 281) hx hb dX5_undo_23 (by decide) ?_
      refine lv_icmp_ge (tgt := 56) hx hb dX5_undo_26 (by decide) (fun c41 => ?_) (fun c41 => ?_)
      · replace hf := it_t hf c41
        obtain rfl := Option.some.inj hf
        exact kx _ _ _ hP hS (lv_sub hl [0] rfl)
      · replace hf := it_f hf c41
        refine lv_aload_n hx hb dX5_undo_29 rfl (lv_at hl 0 rfl) ?_
        refine va_get (ci := 5) (v := .ref (g (b + 1))) (C := RX5) (T := TX5) (N := 12) hx hb hts iw_X5_undo_X5 hown hK hP 0 rfl rfl 0 (by decide) (hts (.fieldLink RX5 7 "BallastTrackModel" "s" "[I") (List.mem_of_getElem? (i := 3) rfl)) (fun _ h9 => h9) rfl dX5_undo_30 ?_
        refine lv_iload_n hx hb dX5_undo_33 rfl (lv_at hl 1 rfl) ?_
        refine lv_aload_n hx hb dX5_undo_34 rfl (lv_at hl 0 rfl) ?_
        refine va_get (ci := 5) (v := .ref (g (b + 2))) (C := RX5) (T := TX5) (N := 12) hx hb hts iw_X5_undo_X5 hown hK hP 0 rfl rfl 1 (by decide) (hts (.fieldLink RX5 13 "BallastTrackModel" "past" "[I") (List.mem_of_getElem? (i := 4) rfl)) (fun _ h9 => h9) rfl dX5_undo_35 ?_
        refine lv_sipush (v := 281) hx hb dX5_undo_38 (by decide) ?_
        refine lv_aload_n hx hb dX5_undo_41 rfl (lv_at hl 0 rfl) ?_
        refine va_get (ci := 5) (v := .int (M_ps u38)) (C := RX5) (T := TX5) (N := 12) hx hb hts iw_X5_undo_X5 hown hK hP 0 rfl rfl 2 (by decide) (hts (.fieldLink RX5 32 "BallastTrackModel" "pasts" "I") (List.mem_of_getElem? (i := 1) rfl)) (fun _ h9 => h9) rfl dX5_undo_42 ?_
        refine lv_topi (fun x42 ex42 => ?_)
        replace hf := nm_i hf ex42
        refine lv_imul hx hb dX5_undo_45 ?_
        refine lv_topi (fun x43 ex43 => ?_)
        replace hf := nm_i hf ex43
        refine lv_iload_n hx hb dX5_undo_46 rfl (lv_at hl 1 rfl) ?_
        refine lv_iadd hx hb dX5_undo_47 ?_
        refine lv_topi (fun x44 ex44 => ?_)
        replace hf := nm_i hf ex44
        obtain ⟨hi45, hf⟩ := ix_i hf
        refine va_iald hx hb hK hP 2 0 rfl rfl hi45 dX5_undo_48 ?_
        refine lv_topi (fun x46 ex46 => ?_)
        replace hf := nm_i hf ex46
        obtain ⟨hi47, hf⟩ := ix_i hf
        refine va_iast hx hb hK hP (va_D_adr hD rfl) hS 1 0 rfl rfl hi47 dX5_undo_49 (fun H locs hP _ hS => ?_)
        obtain ⟨u48, eu48⟩ : ∃ z : TM, z = M_ss_ u38 (upd (M_ss u38) v37.toNatClampNeg x46) := ⟨_, rfl⟩
        replace hf := nm_i hf eu48
        have hP : va_P D vwCl (List.flatten [wM cT g b u48]) H := by rw [eu48]; exact hP
        obtain ⟨x49, ex49⟩ : ∃ z : Int32, z = v37 + (1 : Int32) := ⟨_, rfl⟩
        replace hf := nm_i hf ex49
        refine lv_iinc (v := x49) (lv' := [(1, .int x49), (0, .ref (g b))]) hx hb dX5_undo_50 hl (k := 1) rfl (by rw [ex49]; rfl) (by decide) rfl (fun ls hl => ?_)
        refine lv_goto (tgt := 22) hx hb dX5_undo_53 (by decide) ?_
        exact ih _ _ _ hf _ _ _ hP hS (lv_sub hl [1, 0] rfl) kx
    refine hL22 fu _ _ _ hz40 _ _ _ hP hS (lv_sub hl [1, 0] rfl) (fun H locs ls hP hS hl => ?_)
    refine lv_aload_n hx hb dX5_undo_56 rfl (lv_at hl 0 rfl) ?_
    refine va_get (ci := 5) (v := .int (M_ps z40)) (C := RX5) (T := TX5) (N := 12) hx hb hts iw_X5_undo_X5 hown hK hP 0 rfl rfl 2 (by decide) (hts (.fieldLink RX5 32 "BallastTrackModel" "pasts" "I") (List.mem_of_getElem? (i := 1) rfl)) (fun _ h9 => h9) rfl dX5_undo_57 ?_
    refine lv_topi (fun x50 ex50 => ?_)
    replace hf := nm_i hf ex50
    obtain rfl := Option.some.inj hf
    subst hQ
    exact en_i hx hb hr hP hS hlocks dX5_undo_60
  · replace hf := it_f hf (not_not_intro c22)
    refine lv_ldc (v := -100002) hx hb hown (hts (.constant RX5 36 (-100002)) (List.mem_of_getElem? (i := 2) rfl)) dX5_undo_7 ?_
    obtain rfl := Option.some.inj hf
    subst hQ
    exact en_i hx hb hr hP hS hlocks dX5_undo_9
theorem iw_X5_putAside_X5 : ∀ w ∈ u_ws RX5 TX5 12, w ∈ wsX5_putAside := by decide +kernel
def lb_X5_putAside_2 (fu : Nat)  (rec : Int32 → TM → Option (TM)) (v20 : Int32) (u21 : TM) : Option (TM) :=
if (281 : Int32) ≤ v20 then (
some (u21)
)
else (
ix v20 281 <|
nm ((M_ss u21) v20.toNatClampNeg) fun (x26 : Int32) =>
ix v20 281 <|
nm (M_as_ u21 (upd (M_as u21) v20.toNatClampNeg x26)) fun (u28 : TM) =>
nm (v20 + (1 : Int32)) fun (x29 : Int32) =>
rec x29 u28
)

def lf_X5_putAside_2 (fu : Nat)  : Nat → Int32 → TM → Option (TM) := lq_2 (lb_X5_putAside_2 fu )
def f_X5_putAside (fu : Nat) (u_mo : TM)  : Option (TM) :=
bd (lf_X5_putAside_2 fu  fu ((0 : Int32)) u_mo) fun (z23 : TM) =>
some (z23)

abbrev rm_X5_putAside : Room := { frames := 0, cells := 0, slots := 0, locals := 0 }
set_option maxHeartbeats 4000000 in
set_option maxRecDepth 100000 in
theorem c_X5_putAside (l : Launch) (D : va_G) (cT : Nat → ClassId) (g : Nat → Nat) (b : Nat) (fu : Nat) (u_mo : TM)  (o : TM) (hf : f_X5_putAside fu u_mo  = some o) (sz : Nat) : Met l yX5_putAside wsX5_putAside rm_X5_putAside (va_Pc [.ref (g b)] (PRE D cT sz (List.flatten [wM cT g b u_mo]))) (QV D (List.flatten [wM cT g b o]) (va_A (List.flatten [wM cT g b u_mo]) sz)) 0 0 (va_A (List.flatten [wM cT g b u_mo]) sz) := by
  refine Met.ofW (cc := cX5_putAside) (maxL := 2) (ret := none) (by decide) rfl ?_
  intro p e s m args below meth c s₁ B0 hml hv
  obtain ⟨hav, hsz, hP, hK, hD, hN, hZ⟩ := hv
  have hx := B0.exec
  have hb := B0.bytes
  have hr := B0.returns
  have hts := atoms_spec (ws := wsX5_putAside) B0.pre
  have hown : s.vm.findClass RX5 = some m.cls := findClass_of_methodNamed B0.named
  have hlocks := B0.notSynchronized
  subst hsz
  have hD := hD.self (sz := s.heap.size)
  have hA : ∀ q : Nat, s.heap.size ≤ q → va_A (List.flatten [wM cT g b u_mo]) s.heap.size q := fun q h => Or.inr h
  generalize va_A (List.flatten [wM cT g b u_mo]) s.heap.size = A at hD hZ hA ⊢
  have hS : va_S A s.heap s.heap [] := va_S.rf
  have hl := lv_entry ([.ref (g b)]) (n := 2) (Nat.le_of_ble_eq_true rfl)
  rw [hav]
  rw [lg_entry_eq]
  generalize (lg_sl ([.ref (g b)]) ++ List.replicate (2 - (lg_sl ([.ref (g b)])).length) Slot.unset).toArray = ls at hl ⊢
  have hl : lv_has ls 2 [(0, .ref (g b))] := hl
  rw [← hav]
  generalize hQ : MQ below _ _ _ _ _ _ = Q
  show W p l e rm_X5_putAside s m args below meth c s.heap [] 0 0 Q (F0 m 0 ls [])
  unfold f_X5_putAside at hf
  refine lv_iconst (v := 0) hx hb dX5_putAside_0 (by decide) ?_
  refine lv_istore_n (lv' := [(1, .int ((0 : Int32))), (0, .ref (g b))]) hx hb dX5_putAside_1 rfl hl (by decide) rfl (fun ls hl => ?_)
  obtain ⟨z23, hz23, hf⟩ := bd_i hf
  have hL2 : ∀ (n : Nat) (v20 : Int32) (u21 : TM) (z22 : TM), lf_X5_putAside_2 fu  n v20 u21 = some z22 → ∀ (H : Heap) (locs : List Loc) (ls : Array Slot), va_P D vwCl (List.flatten [wM cT g b u21]) H → va_S A s.heap H locs → lv_has ls 2 [(0, .ref (g b)), (1, .int v20)] → (∀ (H : Heap) (locs : List Loc) (ls : Array Slot), va_P D vwCl (List.flatten [wM cT g b z22]) H → va_S A s.heap H locs → lv_has ls 2 [] → W p l e rm_X5_putAside s m args below meth c H locs 0 0 Q (F0 m 27 ls [])) → W p l e rm_X5_putAside s m args below meth c H locs 0 0 Q (F0 m 2 ls []) := by
    refine lq_2_ind (F := lb_X5_putAside_2 fu ) (fun rec ih v20 u21 z22 hf H locs ls hP hS hl kx => ?_)
    unfold lb_X5_putAside_2 at hf
    refine lv_iload_n hx hb dX5_putAside_2 rfl (lv_at hl 1 rfl) ?_
    refine lv_sipush (v := 281) hx hb dX5_putAside_3 (by decide) ?_
    refine lv_icmp_ge (tgt := 27) hx hb dX5_putAside_6 (by decide) (fun c24 => ?_) (fun c24 => ?_)
    · replace hf := it_t hf c24
      obtain rfl := Option.some.inj hf
      exact kx _ _ _ hP hS (lv_sub hl [] rfl)
    · replace hf := it_f hf c24
      refine lv_aload_n hx hb dX5_putAside_9 rfl (lv_at hl 0 rfl) ?_
      refine va_get (ci := 5) (v := .ref (g (b + 4))) (C := RX5) (T := TX5) (N := 12) hx hb hts iw_X5_putAside_X5 hown hK hP 0 rfl rfl 5 (by decide) (hts (.fieldLink RX5 19 "BallastTrackModel" "aside" "[I") (List.mem_of_getElem? (i := 1) rfl)) (fun _ h9 => h9) rfl dX5_putAside_10 ?_
      refine lv_iload_n hx hb dX5_putAside_13 rfl (lv_at hl 1 rfl) ?_
      refine lv_aload_n hx hb dX5_putAside_14 rfl (lv_at hl 0 rfl) ?_
      refine va_get (ci := 5) (v := .ref (g (b + 1))) (C := RX5) (T := TX5) (N := 12) hx hb hts iw_X5_putAside_X5 hown hK hP 0 rfl rfl 0 (by decide) (hts (.fieldLink RX5 7 "BallastTrackModel" "s" "[I") (List.mem_of_getElem? (i := 2) rfl)) (fun _ h9 => h9) rfl dX5_putAside_15 ?_
      refine lv_iload_n hx hb dX5_putAside_18 rfl (lv_at hl 1 rfl) ?_
      obtain ⟨hi25, hf⟩ := ix_i hf
      refine va_iald hx hb hK hP 1 0 rfl rfl hi25 dX5_putAside_19 ?_
      refine lv_topi (fun x26 ex26 => ?_)
      replace hf := nm_i hf ex26
      obtain ⟨hi27, hf⟩ := ix_i hf
      refine va_iast hx hb hK hP (va_D_adr hD rfl) hS 4 0 rfl rfl hi27 dX5_putAside_20 (fun H locs hP _ hS => ?_)
      obtain ⟨u28, eu28⟩ : ∃ z : TM, z = M_as_ u21 (upd (M_as u21) v20.toNatClampNeg x26) := ⟨_, rfl⟩
      replace hf := nm_i hf eu28
      have hP : va_P D vwCl (List.flatten [wM cT g b u28]) H := by rw [eu28]; exact hP
      obtain ⟨x29, ex29⟩ : ∃ z : Int32, z = v20 + (1 : Int32) := ⟨_, rfl⟩
      replace hf := nm_i hf ex29
      refine lv_iinc (v := x29) (lv' := [(1, .int x29), (0, .ref (g b))]) hx hb dX5_putAside_21 hl (k := 1) rfl (by rw [ex29]; rfl) (by decide) rfl (fun ls hl => ?_)
      refine lv_goto (tgt := 2) hx hb dX5_putAside_24 (by decide) ?_
      exact ih _ _ _ hf _ _ _ hP hS (lv_sub hl [1, 0] rfl) kx
  refine hL2 fu _ _ _ hz23 _ _ _ hP hS (lv_sub hl [1, 0] rfl) (fun H locs ls hP hS hl => ?_)
  obtain rfl := Option.some.inj hf
  subst hQ
  exact en_v hx hb hr hP hS hlocks dX5_putAside_27
theorem iw_X5_putBack_X5 : ∀ w ∈ u_ws RX5 TX5 12, w ∈ wsX5_putBack := by decide +kernel
def lb_X5_putBack_2 (fu : Nat)  (rec : Int32 → TM → Option (TM)) (v20 : Int32) (u21 : TM) : Option (TM) :=
if (281 : Int32) ≤ v20 then (
some (u21)
)
else (
ix v20 281 <|
nm ((M_as u21) v20.toNatClampNeg) fun (x26 : Int32) =>
ix v20 281 <|
nm (M_ss_ u21 (upd (M_ss u21) v20.toNatClampNeg x26)) fun (u28 : TM) =>
nm (v20 + (1 : Int32)) fun (x29 : Int32) =>
rec x29 u28
)

def lf_X5_putBack_2 (fu : Nat)  : Nat → Int32 → TM → Option (TM) := lq_2 (lb_X5_putBack_2 fu )
def f_X5_putBack (fu : Nat) (u_mo : TM)  : Option (TM) :=
bd (lf_X5_putBack_2 fu  fu ((0 : Int32)) u_mo) fun (z23 : TM) =>
some (z23)

abbrev rm_X5_putBack : Room := { frames := 0, cells := 0, slots := 0, locals := 0 }
set_option maxHeartbeats 4000000 in
set_option maxRecDepth 100000 in
theorem c_X5_putBack (l : Launch) (D : va_G) (cT : Nat → ClassId) (g : Nat → Nat) (b : Nat) (fu : Nat) (u_mo : TM)  (o : TM) (hf : f_X5_putBack fu u_mo  = some o) (sz : Nat) : Met l yX5_putBack wsX5_putBack rm_X5_putBack (va_Pc [.ref (g b)] (PRE D cT sz (List.flatten [wM cT g b u_mo]))) (QV D (List.flatten [wM cT g b o]) (va_A (List.flatten [wM cT g b u_mo]) sz)) 0 0 (va_A (List.flatten [wM cT g b u_mo]) sz) := by
  refine Met.ofW (cc := cX5_putBack) (maxL := 2) (ret := none) (by decide) rfl ?_
  intro p e s m args below meth c s₁ B0 hml hv
  obtain ⟨hav, hsz, hP, hK, hD, hN, hZ⟩ := hv
  have hx := B0.exec
  have hb := B0.bytes
  have hr := B0.returns
  have hts := atoms_spec (ws := wsX5_putBack) B0.pre
  have hown : s.vm.findClass RX5 = some m.cls := findClass_of_methodNamed B0.named
  have hlocks := B0.notSynchronized
  subst hsz
  have hD := hD.self (sz := s.heap.size)
  have hA : ∀ q : Nat, s.heap.size ≤ q → va_A (List.flatten [wM cT g b u_mo]) s.heap.size q := fun q h => Or.inr h
  generalize va_A (List.flatten [wM cT g b u_mo]) s.heap.size = A at hD hZ hA ⊢
  have hS : va_S A s.heap s.heap [] := va_S.rf
  have hl := lv_entry ([.ref (g b)]) (n := 2) (Nat.le_of_ble_eq_true rfl)
  rw [hav]
  rw [lg_entry_eq]
  generalize (lg_sl ([.ref (g b)]) ++ List.replicate (2 - (lg_sl ([.ref (g b)])).length) Slot.unset).toArray = ls at hl ⊢
  have hl : lv_has ls 2 [(0, .ref (g b))] := hl
  rw [← hav]
  generalize hQ : MQ below _ _ _ _ _ _ = Q
  show W p l e rm_X5_putBack s m args below meth c s.heap [] 0 0 Q (F0 m 0 ls [])
  unfold f_X5_putBack at hf
  refine lv_iconst (v := 0) hx hb dX5_putBack_0 (by decide) ?_
  refine lv_istore_n (lv' := [(1, .int ((0 : Int32))), (0, .ref (g b))]) hx hb dX5_putBack_1 rfl hl (by decide) rfl (fun ls hl => ?_)
  obtain ⟨z23, hz23, hf⟩ := bd_i hf
  have hL2 : ∀ (n : Nat) (v20 : Int32) (u21 : TM) (z22 : TM), lf_X5_putBack_2 fu  n v20 u21 = some z22 → ∀ (H : Heap) (locs : List Loc) (ls : Array Slot), va_P D vwCl (List.flatten [wM cT g b u21]) H → va_S A s.heap H locs → lv_has ls 2 [(0, .ref (g b)), (1, .int v20)] → (∀ (H : Heap) (locs : List Loc) (ls : Array Slot), va_P D vwCl (List.flatten [wM cT g b z22]) H → va_S A s.heap H locs → lv_has ls 2 [] → W p l e rm_X5_putBack s m args below meth c H locs 0 0 Q (F0 m 27 ls [])) → W p l e rm_X5_putBack s m args below meth c H locs 0 0 Q (F0 m 2 ls []) := by
    refine lq_2_ind (F := lb_X5_putBack_2 fu ) (fun rec ih v20 u21 z22 hf H locs ls hP hS hl kx => ?_)
    unfold lb_X5_putBack_2 at hf
    refine lv_iload_n hx hb dX5_putBack_2 rfl (lv_at hl 1 rfl) ?_
    refine lv_sipush (v := 281) hx hb dX5_putBack_3 (by decide) ?_
    refine lv_icmp_ge (tgt := 27) hx hb dX5_putBack_6 (by decide) (fun c24 => ?_) (fun c24 => ?_)
    · replace hf := it_t hf c24
      obtain rfl := Option.some.inj hf
      exact kx _ _ _ hP hS (lv_sub hl [] rfl)
    · replace hf := it_f hf c24
      refine lv_aload_n hx hb dX5_putBack_9 rfl (lv_at hl 0 rfl) ?_
      refine va_get (ci := 5) (v := .ref (g (b + 1))) (C := RX5) (T := TX5) (N := 12) hx hb hts iw_X5_putBack_X5 hown hK hP 0 rfl rfl 0 (by decide) (hts (.fieldLink RX5 7 "BallastTrackModel" "s" "[I") (List.mem_of_getElem? (i := 1) rfl)) (fun _ h9 => h9) rfl dX5_putBack_10 ?_
      refine lv_iload_n hx hb dX5_putBack_13 rfl (lv_at hl 1 rfl) ?_
      refine lv_aload_n hx hb dX5_putBack_14 rfl (lv_at hl 0 rfl) ?_
      refine va_get (ci := 5) (v := .ref (g (b + 4))) (C := RX5) (T := TX5) (N := 12) hx hb hts iw_X5_putBack_X5 hown hK hP 0 rfl rfl 5 (by decide) (hts (.fieldLink RX5 19 "BallastTrackModel" "aside" "[I") (List.mem_of_getElem? (i := 2) rfl)) (fun _ h9 => h9) rfl dX5_putBack_15 ?_
      refine lv_iload_n hx hb dX5_putBack_18 rfl (lv_at hl 1 rfl) ?_
      obtain ⟨hi25, hf⟩ := ix_i hf
      refine va_iald hx hb hK hP 4 0 rfl rfl hi25 dX5_putBack_19 ?_
      refine lv_topi (fun x26 ex26 => ?_)
      replace hf := nm_i hf ex26
      obtain ⟨hi27, hf⟩ := ix_i hf
      refine va_iast hx hb hK hP (va_D_adr hD rfl) hS 1 0 rfl rfl hi27 dX5_putBack_20 (fun H locs hP _ hS => ?_)
      obtain ⟨u28, eu28⟩ : ∃ z : TM, z = M_ss_ u21 (upd (M_ss u21) v20.toNatClampNeg x26) := ⟨_, rfl⟩
      replace hf := nm_i hf eu28
      have hP : va_P D vwCl (List.flatten [wM cT g b u28]) H := by rw [eu28]; exact hP
      obtain ⟨x29, ex29⟩ : ∃ z : Int32, z = v20 + (1 : Int32) := ⟨_, rfl⟩
      replace hf := nm_i hf ex29
      refine lv_iinc (v := x29) (lv' := [(1, .int x29), (0, .ref (g b))]) hx hb dX5_putBack_21 hl (k := 1) rfl (by rw [ex29]; rfl) (by decide) rfl (fun ls hl => ?_)
      refine lv_goto (tgt := 2) hx hb dX5_putBack_24 (by decide) ?_
      exact ih _ _ _ hf _ _ _ hP hS (lv_sub hl [1, 0] rfl) kx
  refine hL2 fu _ _ _ hz23 _ _ _ hP hS (lv_sub hl [1, 0] rfl) (fun H locs ls hP hS hl => ?_)
  obtain rfl := Option.some.inj hf
  subst hQ
  exact en_v hx hb hr hP hS hlocks dX5_putBack_27
theorem iw_X5_isSleeper_X5 : ∀ w ∈ u_ws RX5 TX5 12, w ∈ wsX5_isSleeper := by decide +kernel
def f_X5_isSleeper (fu : Nat) (u_mo : TM) (p0 : Int32) : Option (Bool) :=
ix ((0 : Int32)) 281 <|
nm ((M_ss u_mo) ((0 : Int32)).toNatClampNeg) fun (x6 : Int32) =>
nm (x6 - (1 : Int32)) fun (x7 : Int32) =>
bd (f_X5_in fu  p0 ((0 : Int32)) x7) fun (o8 : Bool) =>
some (o8)

abbrev rm_X5_isSleeper : Room := { frames := 1, cells := 0, slots := 0, locals := 22 }
set_option maxHeartbeats 4000000 in
set_option maxRecDepth 100000 in
theorem c_X5_isSleeper (l : Launch) (D : va_G) (cT : Nat → ClassId) (g : Nat → Nat) (b : Nat) (fu : Nat) (u_mo : TM) (p0 : Int32) (o : Bool) (hf : f_X5_isSleeper fu u_mo p0 = some o) (sz : Nat) : Met l yX5_isSleeper wsX5_isSleeper rm_X5_isSleeper (va_Pc [.ref (g b), .int p0] (PRE D cT sz (List.flatten [wM cT g b u_mo]))) (QI D (bI o) (List.flatten [wM cT g b u_mo]) (va_A (List.flatten [wM cT g b u_mo]) sz)) 0 0 (va_A (List.flatten [wM cT g b u_mo]) sz) := by
  refine Met.ofW (cc := cX5_isSleeper) (maxL := 2) (ret := (some .boolean)) (by decide) rfl ?_
  intro p e s m args below meth c s₁ B0 hml hv
  obtain ⟨hav, hsz, hP, hK, hD, hN, hZ⟩ := hv
  have hx := B0.exec
  have hb := B0.bytes
  have hr := B0.returns
  have hts := atoms_spec (ws := wsX5_isSleeper) B0.pre
  have hown : s.vm.findClass RX5 = some m.cls := findClass_of_methodNamed B0.named
  have hlocks := B0.notSynchronized
  subst hsz
  have hD := hD.self (sz := s.heap.size)
  have hA : ∀ q : Nat, s.heap.size ≤ q → va_A (List.flatten [wM cT g b u_mo]) s.heap.size q := fun q h => Or.inr h
  generalize va_A (List.flatten [wM cT g b u_mo]) s.heap.size = A at hD hZ hA ⊢
  have hS : va_S A s.heap s.heap [] := va_S.rf
  have hl := lv_entry ([.ref (g b), .int p0]) (n := 2) (Nat.le_of_ble_eq_true rfl)
  rw [hav]
  rw [lg_entry_eq]
  generalize (lg_sl ([.ref (g b), .int p0]) ++ List.replicate (2 - (lg_sl ([.ref (g b), .int p0])).length) Slot.unset).toArray = ls at hl ⊢
  have hl : lv_has ls 2 [(0, .ref (g b)), (1, .int p0)] := hl
  rw [← hav]
  generalize hQ : MQ below _ _ _ _ _ _ = Q
  show W p l e rm_X5_isSleeper s m args below meth c s.heap [] 0 0 Q (F0 m 0 ls [])
  unfold f_X5_isSleeper at hf
  refine lv_iload_n hx hb dX5_isSleeper_0 rfl (lv_at hl 1 rfl) ?_
  refine lv_iconst (v := 0) hx hb dX5_isSleeper_1 (by decide) ?_
  refine lv_aload_n hx hb dX5_isSleeper_2 rfl (lv_at hl 0 rfl) ?_
  refine va_get (ci := 5) (v := .ref (g (b + 1))) (C := RX5) (T := TX5) (N := 12) hx hb hts iw_X5_isSleeper_X5 hown hK hP 0 rfl rfl 0 (by decide) (hts (.fieldLink RX5 7 "BallastTrackModel" "s" "[I") (List.mem_of_getElem? (i := 1) rfl)) (fun _ h9 => h9) rfl dX5_isSleeper_3 ?_
  refine lv_iconst (v := 0) hx hb dX5_isSleeper_6 (by decide) ?_
  obtain ⟨hi5, hf⟩ := ix_i hf
  refine va_iald hx hb hK hP 1 0 rfl rfl hi5 dX5_isSleeper_7 ?_
  refine lv_topi (fun x6 ex6 => ?_)
  replace hf := nm_i hf ex6
  refine lv_iconst (v := 1) hx hb dX5_isSleeper_8 (by decide) ?_
  refine lv_isub hx hb dX5_isSleeper_9 ?_
  refine lv_topi (fun x7 ex7 => ?_)
  replace hf := nm_i hf ex7
  obtain ⟨o8, ho8, hf⟩ := bd_i hf
  refine cl_i [] [0] [wM cT g b u_mo] hP (va_D_adr hD rfl) hA hS (va_runS (As := [.int p0, .int ((0 : Int32)), .int x7]) (rest := []) ⟨hx, hb, hml, hown, hts⟩ (c_X5_in l D cT g  fu  p0 ((0 : Int32)) x7 o8 ho8 _) (va_cwS 3 hts gX5_isSleeper_X5_in rfl rfl rfl (by decide +kernel) ⟨Nat.le_of_ble_eq_true rfl, Nat.le_of_ble_eq_true rfl⟩) ⟨PRE_blind, PRE_ok [] (by decide) hP (va_D_adr hD rfl) hA hS hK hN hZ⟩ rfl rfl hl.1 rfl (lv_room (Nat.le_of_ble_eq_true rfl)) dX5_isSleeper_10 ⟨Nat.le_of_ble_eq_true rfl, Nat.le_of_ble_eq_true rfl⟩) rfl 1 rfl (by decide) (by decide) (fun H locs hP hS => ?_)
  obtain rfl := Option.some.inj hf
  subst hQ
  exact en_z hx hb hr hP hS hlocks dX5_isSleeper_13
def f_X5_isLevel (fu : Nat)  (p0 : Int32) : Option (Bool) :=
bd (f_X5_in fu  p0 ((-9999 : Int32)) ((9999 : Int32))) fun (o2 : Bool) =>
some (o2)

abbrev rm_X5_isLevel : Room := { frames := 1, cells := 0, slots := 0, locals := 22 }
set_option maxHeartbeats 4000000 in
set_option maxRecDepth 100000 in
theorem c_X5_isLevel (l : Launch) (D : va_G) (cT : Nat → ClassId) (g : Nat → Nat) (fu : Nat)  (p0 : Int32) (o : Bool) (hf : f_X5_isLevel fu  p0 = some o) (sz : Nat) : Met l yX5_isLevel wsX5_isLevel rm_X5_isLevel (va_Pc [.int p0] (PRE D cT sz (List.flatten []))) (QI D (bI o) (List.flatten []) (va_A (List.flatten []) sz)) 0 0 (va_A (List.flatten []) sz) := by
  refine Met.ofW (cc := cX5_isLevel) (maxL := 1) (ret := (some .boolean)) (by decide) rfl ?_
  intro p e s m args below meth c s₁ B0 hml hv
  obtain ⟨hav, hsz, hP, hK, hD, hN, hZ⟩ := hv
  have hx := B0.exec
  have hb := B0.bytes
  have hr := B0.returns
  have hts := atoms_spec (ws := wsX5_isLevel) B0.pre
  have hown : s.vm.findClass RX5 = some m.cls := findClass_of_methodNamed B0.named
  have hlocks := B0.notSynchronized
  subst hsz
  have hD := hD.self (sz := s.heap.size)
  have hA : ∀ q : Nat, s.heap.size ≤ q → va_A (List.flatten []) s.heap.size q := fun q h => Or.inr h
  generalize va_A (List.flatten []) s.heap.size = A at hD hZ hA ⊢
  have hS : va_S A s.heap s.heap [] := va_S.rf
  have hl := lv_entry ([.int p0]) (n := 1) (Nat.le_of_ble_eq_true rfl)
  rw [hav]
  rw [lg_entry_eq]
  generalize (lg_sl ([.int p0]) ++ List.replicate (1 - (lg_sl ([.int p0])).length) Slot.unset).toArray = ls at hl ⊢
  have hl : lv_has ls 1 [(0, .int p0)] := hl
  rw [← hav]
  generalize hQ : MQ below _ _ _ _ _ _ = Q
  show W p l e rm_X5_isLevel s m args below meth c s.heap [] 0 0 Q (F0 m 0 ls [])
  unfold f_X5_isLevel at hf
  refine lv_iload_n hx hb dX5_isLevel_0 rfl (lv_at hl 0 rfl) ?_
  refine lv_sipush (v := -9999) hx hb dX5_isLevel_1 (by decide) ?_
  refine lv_sipush (v := 9999) hx hb dX5_isLevel_4 (by decide) ?_
  obtain ⟨o2, ho2, hf⟩ := bd_i hf
  refine cl_i [] [] [] hP (va_D_adr hD rfl) hA hS (va_runS (As := [.int p0, .int ((-9999 : Int32)), .int ((9999 : Int32))]) (rest := []) ⟨hx, hb, hml, hown, hts⟩ (c_X5_in l D cT g  fu  p0 ((-9999 : Int32)) ((9999 : Int32)) o2 ho2 _) (va_cwS 3 hts gX5_isLevel_X5_in rfl rfl rfl (by decide +kernel) ⟨Nat.le_of_ble_eq_true rfl, Nat.le_of_ble_eq_true rfl⟩) ⟨PRE_blind, PRE_ok [] (by decide) hP (va_D_adr hD rfl) hA hS hK hN hZ⟩ rfl rfl hl.1 rfl (lv_room (Nat.le_of_ble_eq_true rfl)) dX5_isLevel_7 ⟨Nat.le_of_ble_eq_true rfl, Nat.le_of_ble_eq_true rfl⟩) rfl 0 rfl (by decide) (by decide) (fun H locs hP hS => ?_)
  obtain rfl := Option.some.inj hf
  subst hQ
  exact en_z hx hb hr hP hS hlocks dX5_isLevel_10
theorem iw_X5_laysRail_X5 : ∀ w ∈ u_ws RX5 TX5 12, w ∈ wsX5_laysRail := by decide +kernel
def lb_X5_laysRail_29 (fu : Nat) (v72 : Int32) (rec : Int32 → TM → Option (TM)) (v104 : Int32) (u105 : TM) : Option (TM) :=
ix ((0 : Int32)) 281 <|
nm ((M_ss u105) ((0 : Int32)).toNatClampNeg) fun (x109 : Int32) =>
if x109 ≤ v104 then (
some (u105)
)
else (
ix v72 60 <|
nm ((M_ra u105) v72.toNatClampNeg) fun (x112 : Int32) =>
nm ((41 : Int32) + v104) fun (x113 : Int32) =>
ix x113 281 <|
nm ((M_ss u105) x113.toNatClampNeg) fun (x115 : Int32) =>
ix ((1 : Int32)) 281 <|
nm ((M_ss u105) ((1 : Int32)).toNatClampNeg) fun (x117 : Int32) =>
nm (v72 - v104) fun (x118 : Int32) =>
bd (f_X5_size fu  x118) fun (o119 : Int32) =>
nm (x117 * o119) fun (x120 : Int32) =>
nm (x115 - x120) fun (x121 : Int32) =>
bd (f_X5_greater fu  x112 x121) fun (o122 : Int32) =>
ix v72 60 <|
nm (M_ra_ u105 (upd (M_ra u105) v72.toNatClampNeg o122)) fun (u124 : TM) =>
nm (v104 + (1 : Int32)) fun (x125 : Int32) =>
rec x125 u124
)

def lf_X5_laysRail_29 (fu : Nat) (v72 : Int32) : Nat → Int32 → TM → Option (TM) := lq_2 (lb_X5_laysRail_29 fu v72)
def lb_X5_laysRail_2 (fu : Nat)  (rec : Int32 → TM → Option (TM)) (v72 : Int32) (u73 : TM) : Option (TM) :=
ix ((0 : Int32)) 281 <|
nm ((M_ss u73) ((0 : Int32)).toNatClampNeg) fun (x77 : Int32) =>
if x77 ≤ v72 then (
some (u73)
)
else (
nm ((41 : Int32) + v72) fun (x79 : Int32) =>
ix x79 281 <|
nm ((M_ss u73) x79.toNatClampNeg) fun (x81 : Int32) =>
ix v72 60 <|
nm (M_ra_ u73 (upd (M_ra u73) v72.toNatClampNeg x81)) fun (u83 : TM) =>
bd (lf_X5_laysRail_29 fu v72 fu ((0 : Int32)) u83) fun (z107 : TM) =>
nm (v72 + (1 : Int32)) fun (x126 : Int32) =>
rec x126 z107
)

def lf_X5_laysRail_2 (fu : Nat)  : Nat → Int32 → TM → Option (TM) := lq_2 (lb_X5_laysRail_2 fu )
def f_X5_laysRail (fu : Nat) (u_mo : TM)  : Option (TM) :=
bd (lf_X5_laysRail_2 fu  fu ((0 : Int32)) u_mo) fun (z75 : TM) =>
some (z75)

abbrev rm_X5_laysRail : Room := { frames := 1, cells := 0, slots := 0, locals := 21 }
set_option maxHeartbeats 4000000 in
set_option maxRecDepth 100000 in
theorem c_X5_laysRail (l : Launch) (D : va_G) (cT : Nat → ClassId) (g : Nat → Nat) (b : Nat) (fu : Nat) (u_mo : TM)  (o : TM) (hf : f_X5_laysRail fu u_mo  = some o) (sz : Nat) : Met l yX5_laysRail wsX5_laysRail rm_X5_laysRail (va_Pc [.ref (g b)] (PRE D cT sz (List.flatten [wM cT g b u_mo]))) (QV D (List.flatten [wM cT g b o]) (va_A (List.flatten [wM cT g b u_mo]) sz)) 0 0 (va_A (List.flatten [wM cT g b u_mo]) sz) := by
  refine Met.ofW (cc := cX5_laysRail) (maxL := 3) (ret := none) (by decide) rfl ?_
  intro p e s m args below meth c s₁ B0 hml hv
  obtain ⟨hav, hsz, hP, hK, hD, hN, hZ⟩ := hv
  have hx := B0.exec
  have hb := B0.bytes
  have hr := B0.returns
  have hts := atoms_spec (ws := wsX5_laysRail) B0.pre
  have hown : s.vm.findClass RX5 = some m.cls := findClass_of_methodNamed B0.named
  have hlocks := B0.notSynchronized
  subst hsz
  have hD := hD.self (sz := s.heap.size)
  have hA : ∀ q : Nat, s.heap.size ≤ q → va_A (List.flatten [wM cT g b u_mo]) s.heap.size q := fun q h => Or.inr h
  generalize va_A (List.flatten [wM cT g b u_mo]) s.heap.size = A at hD hZ hA ⊢
  have hS : va_S A s.heap s.heap [] := va_S.rf
  have hl := lv_entry ([.ref (g b)]) (n := 3) (Nat.le_of_ble_eq_true rfl)
  rw [hav]
  rw [lg_entry_eq]
  generalize (lg_sl ([.ref (g b)]) ++ List.replicate (3 - (lg_sl ([.ref (g b)])).length) Slot.unset).toArray = ls at hl ⊢
  have hl : lv_has ls 3 [(0, .ref (g b))] := hl
  rw [← hav]
  generalize hQ : MQ below _ _ _ _ _ _ = Q
  show W p l e rm_X5_laysRail s m args below meth c s.heap [] 0 0 Q (F0 m 0 ls [])
  unfold f_X5_laysRail at hf
  refine lv_iconst (v := 0) hx hb dX5_laysRail_0 (by decide) ?_
  refine lv_istore_n (lv' := [(1, .int ((0 : Int32))), (0, .ref (g b))]) hx hb dX5_laysRail_1 rfl hl (by decide) rfl (fun ls hl => ?_)
  obtain ⟨z75, hz75, hf⟩ := bd_i hf
  have hL2 : ∀ (n : Nat) (v72 : Int32) (u73 : TM) (z74 : TM), lf_X5_laysRail_2 fu  n v72 u73 = some z74 → ∀ (H : Heap) (locs : List Loc) (ls : Array Slot), va_P D vwCl (List.flatten [wM cT g b u73]) H → va_S A s.heap H locs → lv_has ls 3 [(0, .ref (g b)), (1, .int v72)] → (∀ (H : Heap) (locs : List Loc) (ls : Array Slot), va_P D vwCl (List.flatten [wM cT g b z74]) H → va_S A s.heap H locs → lv_has ls 3 [] → W p l e rm_X5_laysRail s m args below meth c H locs 0 0 Q (F0 m 89 ls [])) → W p l e rm_X5_laysRail s m args below meth c H locs 0 0 Q (F0 m 2 ls []) := by
    refine lq_2_ind (F := lb_X5_laysRail_2 fu ) (fun rec ih v72 u73 z74 hf H locs ls hP hS hl kx => ?_)
    unfold lb_X5_laysRail_2 at hf
    refine lv_iload_n hx hb dX5_laysRail_2 rfl (lv_at hl 1 rfl) ?_
    refine lv_aload_n hx hb dX5_laysRail_3 rfl (lv_at hl 0 rfl) ?_
    refine va_get (ci := 5) (v := .ref (g (b + 1))) (C := RX5) (T := TX5) (N := 12) hx hb hts iw_X5_laysRail_X5 hown hK hP 0 rfl rfl 0 (by decide) (hts (.fieldLink RX5 7 "BallastTrackModel" "s" "[I") (List.mem_of_getElem? (i := 1) rfl)) (fun _ h9 => h9) rfl dX5_laysRail_4 ?_
    refine lv_iconst (v := 0) hx hb dX5_laysRail_7 (by decide) ?_
    obtain ⟨hi76, hf⟩ := ix_i hf
    refine va_iald hx hb hK hP 1 0 rfl rfl hi76 dX5_laysRail_8 ?_
    refine lv_topi (fun x77 ex77 => ?_)
    replace hf := nm_i hf ex77
    refine lv_icmp_ge (tgt := 89) hx hb dX5_laysRail_9 (by decide) (fun c78 => ?_) (fun c78 => ?_)
    · replace hf := it_t hf c78
      obtain rfl := Option.some.inj hf
      exact kx _ _ _ hP hS (lv_sub hl [] rfl)
    · replace hf := it_f hf c78
      refine lv_aload_n hx hb dX5_laysRail_12 rfl (lv_at hl 0 rfl) ?_
      refine va_get (ci := 5) (v := .ref (g (b + 6))) (C := RX5) (T := TX5) (N := 12) hx hb hts iw_X5_laysRail_X5 hown hK hP 0 rfl rfl 8 (by decide) (hts (.fieldLink RX5 26 "BallastTrackModel" "rail" "[I") (List.mem_of_getElem? (i := 2) rfl)) (fun _ h9 => h9) rfl dX5_laysRail_13 ?_
      refine lv_iload_n hx hb dX5_laysRail_16 rfl (lv_at hl 1 rfl) ?_
      refine lv_aload_n hx hb dX5_laysRail_17 rfl (lv_at hl 0 rfl) ?_
      refine va_get (ci := 5) (v := .ref (g (b + 1))) (C := RX5) (T := TX5) (N := 12) hx hb hts iw_X5_laysRail_X5 hown hK hP 0 rfl rfl 0 (by decide) (hts (.fieldLink RX5 7 "BallastTrackModel" "s" "[I") (List.mem_of_getElem? (i := 1) rfl)) (fun _ h9 => h9) rfl dX5_laysRail_18 ?_
      refine lv_bipush (v := 41) hx hb dX5_laysRail_21 (by decide) ?_
      refine lv_iload_n hx hb dX5_laysRail_23 rfl (lv_at hl 1 rfl) ?_
      refine lv_iadd hx hb dX5_laysRail_24 ?_
      refine lv_topi (fun x79 ex79 => ?_)
      replace hf := nm_i hf ex79
      obtain ⟨hi80, hf⟩ := ix_i hf
      refine va_iald hx hb hK hP 1 0 rfl rfl hi80 dX5_laysRail_25 ?_
      refine lv_topi (fun x81 ex81 => ?_)
      replace hf := nm_i hf ex81
      obtain ⟨hi82, hf⟩ := ix_i hf
      refine va_iast hx hb hK hP (va_D_adr hD rfl) hS 6 0 rfl rfl hi82 dX5_laysRail_26 (fun H locs hP _ hS => ?_)
      obtain ⟨u83, eu83⟩ : ∃ z : TM, z = M_ra_ u73 (upd (M_ra u73) v72.toNatClampNeg x81) := ⟨_, rfl⟩
      replace hf := nm_i hf eu83
      have hP : va_P D vwCl (List.flatten [wM cT g b u83]) H := by rw [eu83]; exact hP
      refine lv_iconst (v := 0) hx hb dX5_laysRail_27 (by decide) ?_
      refine lv_istore_n (lv' := [(2, .int ((0 : Int32))), (0, .ref (g b)), (1, .int v72)]) hx hb dX5_laysRail_28 rfl hl (by decide) rfl (fun ls hl => ?_)
      obtain ⟨z107, hz107, hf⟩ := bd_i hf
      have hL29 : ∀ (n : Nat) (v104 : Int32) (u105 : TM) (z106 : TM), lf_X5_laysRail_29 fu v72 n v104 u105 = some z106 → ∀ (H : Heap) (locs : List Loc) (ls : Array Slot), va_P D vwCl (List.flatten [wM cT g b u105]) H → va_S A s.heap H locs → lv_has ls 3 [(0, .ref (g b)), (1, .int v72), (2, .int v104)] → (∀ (H : Heap) (locs : List Loc) (ls : Array Slot), va_P D vwCl (List.flatten [wM cT g b z106]) H → va_S A s.heap H locs → lv_has ls 3 [(0, .ref (g b)), (1, .int v72)] → W p l e rm_X5_laysRail s m args below meth c H locs 0 0 Q (F0 m 83 ls [])) → W p l e rm_X5_laysRail s m args below meth c H locs 0 0 Q (F0 m 29 ls []) := by
        refine lq_2_ind (F := lb_X5_laysRail_29 fu v72) (fun rec ih v104 u105 z106 hf H locs ls hP hS hl kx => ?_)
        unfold lb_X5_laysRail_29 at hf
        refine lv_iload_n hx hb dX5_laysRail_29 rfl (lv_at hl 2 rfl) ?_
        refine lv_aload_n hx hb dX5_laysRail_30 rfl (lv_at hl 0 rfl) ?_
        refine va_get (ci := 5) (v := .ref (g (b + 1))) (C := RX5) (T := TX5) (N := 12) hx hb hts iw_X5_laysRail_X5 hown hK hP 0 rfl rfl 0 (by decide) (hts (.fieldLink RX5 7 "BallastTrackModel" "s" "[I") (List.mem_of_getElem? (i := 1) rfl)) (fun _ h9 => h9) rfl dX5_laysRail_31 ?_
        refine lv_iconst (v := 0) hx hb dX5_laysRail_34 (by decide) ?_
        obtain ⟨hi108, hf⟩ := ix_i hf
        refine va_iald hx hb hK hP 1 0 rfl rfl hi108 dX5_laysRail_35 ?_
        refine lv_topi (fun x109 ex109 => ?_)
        replace hf := nm_i hf ex109
        refine lv_icmp_ge (tgt := 83) hx hb dX5_laysRail_36 (by decide) (fun c110 => ?_) (fun c110 => ?_)
        · replace hf := it_t hf c110
          obtain rfl := Option.some.inj hf
          exact kx _ _ _ hP hS (lv_sub hl [0, 1] rfl)
        · replace hf := it_f hf c110
          refine lv_aload_n hx hb dX5_laysRail_39 rfl (lv_at hl 0 rfl) ?_
          refine va_get (ci := 5) (v := .ref (g (b + 6))) (C := RX5) (T := TX5) (N := 12) hx hb hts iw_X5_laysRail_X5 hown hK hP 0 rfl rfl 8 (by decide) (hts (.fieldLink RX5 26 "BallastTrackModel" "rail" "[I") (List.mem_of_getElem? (i := 2) rfl)) (fun _ h9 => h9) rfl dX5_laysRail_40 ?_
          refine lv_iload_n hx hb dX5_laysRail_43 rfl (lv_at hl 1 rfl) ?_
          refine lv_aload_n hx hb dX5_laysRail_44 rfl (lv_at hl 0 rfl) ?_
          refine va_get (ci := 5) (v := .ref (g (b + 6))) (C := RX5) (T := TX5) (N := 12) hx hb hts iw_X5_laysRail_X5 hown hK hP 0 rfl rfl 8 (by decide) (hts (.fieldLink RX5 26 "BallastTrackModel" "rail" "[I") (List.mem_of_getElem? (i := 2) rfl)) (fun _ h9 => h9) rfl dX5_laysRail_45 ?_
          refine lv_iload_n hx hb dX5_laysRail_48 rfl (lv_at hl 1 rfl) ?_
          obtain ⟨hi111, hf⟩ := ix_i hf
          refine va_iald hx hb hK hP 6 0 rfl rfl hi111 dX5_laysRail_49 ?_
          refine lv_topi (fun x112 ex112 => ?_)
          replace hf := nm_i hf ex112
          refine lv_aload_n hx hb dX5_laysRail_50 rfl (lv_at hl 0 rfl) ?_
          refine va_get (ci := 5) (v := .ref (g (b + 1))) (C := RX5) (T := TX5) (N := 12) hx hb hts iw_X5_laysRail_X5 hown hK hP 0 rfl rfl 0 (by decide) (hts (.fieldLink RX5 7 "BallastTrackModel" "s" "[I") (List.mem_of_getElem? (i := 1) rfl)) (fun _ h9 => h9) rfl dX5_laysRail_51 ?_
          refine lv_bipush (v := 41) hx hb dX5_laysRail_54 (by decide) ?_
          refine lv_iload_n hx hb dX5_laysRail_56 rfl (lv_at hl 2 rfl) ?_
          refine lv_iadd hx hb dX5_laysRail_57 ?_
          refine lv_topi (fun x113 ex113 => ?_)
          replace hf := nm_i hf ex113
          obtain ⟨hi114, hf⟩ := ix_i hf
          refine va_iald hx hb hK hP 1 0 rfl rfl hi114 dX5_laysRail_58 ?_
          refine lv_topi (fun x115 ex115 => ?_)
          replace hf := nm_i hf ex115
          refine lv_aload_n hx hb dX5_laysRail_59 rfl (lv_at hl 0 rfl) ?_
          refine va_get (ci := 5) (v := .ref (g (b + 1))) (C := RX5) (T := TX5) (N := 12) hx hb hts iw_X5_laysRail_X5 hown hK hP 0 rfl rfl 0 (by decide) (hts (.fieldLink RX5 7 "BallastTrackModel" "s" "[I") (List.mem_of_getElem? (i := 1) rfl)) (fun _ h9 => h9) rfl dX5_laysRail_60 ?_
          refine lv_iconst (v := 1) hx hb dX5_laysRail_63 (by decide) ?_
          obtain ⟨hi116, hf⟩ := ix_i hf
          refine va_iald hx hb hK hP 1 0 rfl rfl hi116 dX5_laysRail_64 ?_
          refine lv_topi (fun x117 ex117 => ?_)
          replace hf := nm_i hf ex117
          refine lv_iload_n hx hb dX5_laysRail_65 rfl (lv_at hl 1 rfl) ?_
          refine lv_iload_n hx hb dX5_laysRail_66 rfl (lv_at hl 2 rfl) ?_
          refine lv_isub hx hb dX5_laysRail_67 ?_
          refine lv_topi (fun x118 ex118 => ?_)
          replace hf := nm_i hf ex118
          obtain ⟨o119, ho119, hf⟩ := bd_i hf
          refine cl_i [] [0] [wM cT g b u105] hP (va_D_adr hD rfl) hA hS (va_runS (As := [.int x118]) (rest := [.int x117, .int x115, .int x112, .int v72, .ref (g (b + 6))]) ⟨hx, hb, hml, hown, hts⟩ (c_X5_size l D cT g  fu  x118 o119 ho119 _) (va_cwS 1 hts gX5_laysRail_X5_size rfl rfl rfl (by decide +kernel) ⟨Nat.le_of_ble_eq_true rfl, Nat.le_of_ble_eq_true rfl⟩) ⟨PRE_blind, PRE_ok [] (by decide) hP (va_D_adr hD rfl) hA hS hK hN hZ⟩ rfl rfl hl.1 rfl (lv_room (Nat.le_of_ble_eq_true rfl)) dX5_laysRail_68 ⟨Nat.le_of_ble_eq_true rfl, Nat.le_of_ble_eq_true rfl⟩) rfl 1 rfl (by decide) (by decide) (fun H locs hP hS => ?_)
          refine lv_imul hx hb dX5_laysRail_71 ?_
          refine lv_topi (fun x120 ex120 => ?_)
          replace hf := nm_i hf ex120
          refine lv_isub hx hb dX5_laysRail_72 ?_
          refine lv_topi (fun x121 ex121 => ?_)
          replace hf := nm_i hf ex121
          obtain ⟨o122, ho122, hf⟩ := bd_i hf
          refine cl_i [] [0] [wM cT g b u105] hP (va_D_adr hD rfl) hA hS (va_runS (As := [.int x112, .int x121]) (rest := [.int v72, .ref (g (b + 6))]) ⟨hx, hb, hml, hown, hts⟩ (c_X5_greater l D cT g  fu  x112 x121 o122 ho122 _) (va_cwS 2 hts gX5_laysRail_X5_greater rfl rfl rfl (by decide +kernel) ⟨Nat.le_of_ble_eq_true rfl, Nat.le_of_ble_eq_true rfl⟩) ⟨PRE_blind, PRE_ok [] (by decide) hP (va_D_adr hD rfl) hA hS hK hN hZ⟩ rfl rfl hl.1 rfl (lv_room (Nat.le_of_ble_eq_true rfl)) dX5_laysRail_73 ⟨Nat.le_of_ble_eq_true rfl, Nat.le_of_ble_eq_true rfl⟩) rfl 1 rfl (by decide) (by decide) (fun H locs hP hS => ?_)
          obtain ⟨hi123, hf⟩ := ix_i hf
          refine va_iast hx hb hK hP (va_D_adr hD rfl) hS 6 0 rfl rfl hi123 dX5_laysRail_76 (fun H locs hP _ hS => ?_)
          obtain ⟨u124, eu124⟩ : ∃ z : TM, z = M_ra_ u105 (upd (M_ra u105) v72.toNatClampNeg o122) := ⟨_, rfl⟩
          replace hf := nm_i hf eu124
          have hP : va_P D vwCl (List.flatten [wM cT g b u124]) H := by rw [eu124]; exact hP
          obtain ⟨x125, ex125⟩ : ∃ z : Int32, z = v104 + (1 : Int32) := ⟨_, rfl⟩
          replace hf := nm_i hf ex125
          refine lv_iinc (v := x125) (lv' := [(2, .int x125), (0, .ref (g b)), (1, .int v72)]) hx hb dX5_laysRail_77 hl (k := 2) rfl (by rw [ex125]; rfl) (by decide) rfl (fun ls hl => ?_)
          refine lv_goto (tgt := 29) hx hb dX5_laysRail_80 (by decide) ?_
          exact ih _ _ _ hf _ _ _ hP hS (lv_sub hl [1, 2, 0] rfl) kx
      refine hL29 fu _ _ _ hz107 _ _ _ hP hS (lv_sub hl [1, 2, 0] rfl) (fun H locs ls hP hS hl => ?_)
      obtain ⟨x126, ex126⟩ : ∃ z : Int32, z = v72 + (1 : Int32) := ⟨_, rfl⟩
      replace hf := nm_i hf ex126
      refine lv_iinc (v := x126) (lv' := [(1, .int x126), (0, .ref (g b))]) hx hb dX5_laysRail_83 hl (k := 1) rfl (by rw [ex126]; rfl) (by decide) rfl (fun ls hl => ?_)
      refine lv_goto (tgt := 2) hx hb dX5_laysRail_86 (by decide) ?_
      exact ih _ _ _ hf _ _ _ hP hS (lv_sub hl [1, 0] rfl) kx
  refine hL2 fu _ _ _ hz75 _ _ _ hP hS (lv_sub hl [1, 0] rfl) (fun H locs ls hP hS hl => ?_)
  obtain rfl := Option.some.inj hf
  subst hQ
  exact en_v hx hb hr hP hS hlocks dX5_laysRail_89
theorem iw_X5_voidAt_X5 : ∀ w ∈ u_ws RX5 TX5 12, w ∈ wsX5_voidAt := by decide +kernel
def f_X5_voidAt (fu : Nat) (u_mo : TM) (p0 : Int32) : Option (Int32) :=
ix p0 60 <|
nm ((M_ra u_mo) p0.toNatClampNeg) fun (x8 : Int32) =>
nm ((41 : Int32) + p0) fun (x9 : Int32) =>
ix x9 281 <|
nm ((M_ss u_mo) x9.toNatClampNeg) fun (x11 : Int32) =>
nm (x8 - x11) fun (x12 : Int32) =>
some (x12)

abbrev rm_X5_voidAt : Room := { frames := 0, cells := 0, slots := 0, locals := 0 }
set_option maxHeartbeats 4000000 in
set_option maxRecDepth 100000 in
theorem c_X5_voidAt (l : Launch) (D : va_G) (cT : Nat → ClassId) (g : Nat → Nat) (b : Nat) (fu : Nat) (u_mo : TM) (p0 : Int32) (o : Int32) (hf : f_X5_voidAt fu u_mo p0 = some o) (sz : Nat) : Met l yX5_voidAt wsX5_voidAt rm_X5_voidAt (va_Pc [.ref (g b), .int p0] (PRE D cT sz (List.flatten [wM cT g b u_mo]))) (QI D o (List.flatten [wM cT g b u_mo]) (va_A (List.flatten [wM cT g b u_mo]) sz)) 0 0 (va_A (List.flatten [wM cT g b u_mo]) sz) := by
  refine Met.ofW (cc := cX5_voidAt) (maxL := 2) (ret := (some .int)) (by decide) rfl ?_
  intro p e s m args below meth c s₁ B0 hml hv
  obtain ⟨hav, hsz, hP, hK, hD, hN, hZ⟩ := hv
  have hx := B0.exec
  have hb := B0.bytes
  have hr := B0.returns
  have hts := atoms_spec (ws := wsX5_voidAt) B0.pre
  have hown : s.vm.findClass RX5 = some m.cls := findClass_of_methodNamed B0.named
  have hlocks := B0.notSynchronized
  subst hsz
  have hD := hD.self (sz := s.heap.size)
  have hA : ∀ q : Nat, s.heap.size ≤ q → va_A (List.flatten [wM cT g b u_mo]) s.heap.size q := fun q h => Or.inr h
  generalize va_A (List.flatten [wM cT g b u_mo]) s.heap.size = A at hD hZ hA ⊢
  have hS : va_S A s.heap s.heap [] := va_S.rf
  have hl := lv_entry ([.ref (g b), .int p0]) (n := 2) (Nat.le_of_ble_eq_true rfl)
  rw [hav]
  rw [lg_entry_eq]
  generalize (lg_sl ([.ref (g b), .int p0]) ++ List.replicate (2 - (lg_sl ([.ref (g b), .int p0])).length) Slot.unset).toArray = ls at hl ⊢
  have hl : lv_has ls 2 [(0, .ref (g b)), (1, .int p0)] := hl
  rw [← hav]
  generalize hQ : MQ below _ _ _ _ _ _ = Q
  show W p l e rm_X5_voidAt s m args below meth c s.heap [] 0 0 Q (F0 m 0 ls [])
  unfold f_X5_voidAt at hf
  refine lv_aload_n hx hb dX5_voidAt_0 rfl (lv_at hl 0 rfl) ?_
  refine va_get (ci := 5) (v := .ref (g (b + 6))) (C := RX5) (T := TX5) (N := 12) hx hb hts iw_X5_voidAt_X5 hown hK hP 0 rfl rfl 8 (by decide) (hts (.fieldLink RX5 26 "BallastTrackModel" "rail" "[I") (List.mem_of_getElem? (i := 1) rfl)) (fun _ h9 => h9) rfl dX5_voidAt_1 ?_
  refine lv_iload_n hx hb dX5_voidAt_4 rfl (lv_at hl 1 rfl) ?_
  obtain ⟨hi7, hf⟩ := ix_i hf
  refine va_iald hx hb hK hP 6 0 rfl rfl hi7 dX5_voidAt_5 ?_
  refine lv_topi (fun x8 ex8 => ?_)
  replace hf := nm_i hf ex8
  refine lv_aload_n hx hb dX5_voidAt_6 rfl (lv_at hl 0 rfl) ?_
  refine va_get (ci := 5) (v := .ref (g (b + 1))) (C := RX5) (T := TX5) (N := 12) hx hb hts iw_X5_voidAt_X5 hown hK hP 0 rfl rfl 0 (by decide) (hts (.fieldLink RX5 7 "BallastTrackModel" "s" "[I") (List.mem_of_getElem? (i := 2) rfl)) (fun _ h9 => h9) rfl dX5_voidAt_7 ?_
  refine lv_bipush (v := 41) hx hb dX5_voidAt_10 (by decide) ?_
  refine lv_iload_n hx hb dX5_voidAt_12 rfl (lv_at hl 1 rfl) ?_
  refine lv_iadd hx hb dX5_voidAt_13 ?_
  refine lv_topi (fun x9 ex9 => ?_)
  replace hf := nm_i hf ex9
  obtain ⟨hi10, hf⟩ := ix_i hf
  refine va_iald hx hb hK hP 1 0 rfl rfl hi10 dX5_voidAt_14 ?_
  refine lv_topi (fun x11 ex11 => ?_)
  replace hf := nm_i hf ex11
  refine lv_isub hx hb dX5_voidAt_15 ?_
  refine lv_topi (fun x12 ex12 => ?_)
  replace hf := nm_i hf ex12
  obtain rfl := Option.some.inj hf
  subst hQ
  exact en_i hx hb hr hP hS hlocks dX5_voidAt_16
theorem iw_X5_hangs_X5 : ∀ w ∈ u_ws RX5 TX5 12, w ∈ wsX5_hangs := by decide +kernel
def f_X5_hangs (fu : Nat) (u_mo : TM) (p0 : Int32) : Option (Bool) :=
bd (f_X5_voidAt fu u_mo p0) fun (o5 : Int32) =>
ix ((2 : Int32)) 281 <|
nm ((M_ss u_mo) ((2 : Int32)).toNatClampNeg) fun (x7 : Int32) =>
if o5 ≤ x7 then (
some (false)
)
else (
some (true)
)

abbrev rm_X5_hangs : Room := { frames := 1, cells := 0, slots := 0, locals := 21 }
set_option maxHeartbeats 4000000 in
set_option maxRecDepth 100000 in
theorem c_X5_hangs (l : Launch) (D : va_G) (cT : Nat → ClassId) (g : Nat → Nat) (b : Nat) (fu : Nat) (u_mo : TM) (p0 : Int32) (o : Bool) (hf : f_X5_hangs fu u_mo p0 = some o) (sz : Nat) : Met l yX5_hangs wsX5_hangs rm_X5_hangs (va_Pc [.ref (g b), .int p0] (PRE D cT sz (List.flatten [wM cT g b u_mo]))) (QI D (bI o) (List.flatten [wM cT g b u_mo]) (va_A (List.flatten [wM cT g b u_mo]) sz)) 0 0 (va_A (List.flatten [wM cT g b u_mo]) sz) := by
  refine Met.ofW (cc := cX5_hangs) (maxL := 2) (ret := (some .boolean)) (by decide) rfl ?_
  intro p e s m args below meth c s₁ B0 hml hv
  obtain ⟨hav, hsz, hP, hK, hD, hN, hZ⟩ := hv
  have hx := B0.exec
  have hb := B0.bytes
  have hr := B0.returns
  have hts := atoms_spec (ws := wsX5_hangs) B0.pre
  have hown : s.vm.findClass RX5 = some m.cls := findClass_of_methodNamed B0.named
  have hlocks := B0.notSynchronized
  subst hsz
  have hD := hD.self (sz := s.heap.size)
  have hA : ∀ q : Nat, s.heap.size ≤ q → va_A (List.flatten [wM cT g b u_mo]) s.heap.size q := fun q h => Or.inr h
  generalize va_A (List.flatten [wM cT g b u_mo]) s.heap.size = A at hD hZ hA ⊢
  have hS : va_S A s.heap s.heap [] := va_S.rf
  have hl := lv_entry ([.ref (g b), .int p0]) (n := 2) (Nat.le_of_ble_eq_true rfl)
  rw [hav]
  rw [lg_entry_eq]
  generalize (lg_sl ([.ref (g b), .int p0]) ++ List.replicate (2 - (lg_sl ([.ref (g b), .int p0])).length) Slot.unset).toArray = ls at hl ⊢
  have hl : lv_has ls 2 [(0, .ref (g b)), (1, .int p0)] := hl
  rw [← hav]
  generalize hQ : MQ below _ _ _ _ _ _ = Q
  show W p l e rm_X5_hangs s m args below meth c s.heap [] 0 0 Q (F0 m 0 ls [])
  unfold f_X5_hangs at hf
  refine lv_aload_n hx hb dX5_hangs_0 rfl (lv_at hl 0 rfl) ?_
  refine lv_iload_n hx hb dX5_hangs_1 rfl (lv_at hl 1 rfl) ?_
  obtain ⟨o5, ho5, hf⟩ := bd_i hf
  refine cl_i [0] [] [wM cT g b u_mo] hP (va_D_adr hD rfl) hA hS (va_runV (As := [.int p0]) (rest := []) ⟨hx, hb, hml, hown, hts⟩ (c_X5_voidAt l D cT g b fu u_mo p0 o5 ho5 _) (cwV 1 hts gX5_hangs_X5_voidAt rfl rfl rfl (by decide +kernel) ⟨Nat.le_of_ble_eq_true rfl, Nat.le_of_ble_eq_true rfl⟩) ⟨PRE_blind, va_recv hK hP (ci := 5) (q0 := 0) rfl rfl, PRE_ok [0] (by decide) hP (va_D_adr hD rfl) hA hS hK hN hZ⟩ rfl rfl hl.1 rfl (lv_room (Nat.le_of_ble_eq_true rfl)) dX5_hangs_2 ⟨Nat.le_of_ble_eq_true rfl, Nat.le_of_ble_eq_true rfl⟩) rfl 1 rfl (by decide) (by decide) (fun H locs hP hS => ?_)
  refine lv_aload_n hx hb dX5_hangs_5 rfl (lv_at hl 0 rfl) ?_
  refine va_get (ci := 5) (v := .ref (g (b + 1))) (C := RX5) (T := TX5) (N := 12) hx hb hts iw_X5_hangs_X5 hown hK hP 0 rfl rfl 0 (by decide) (hts (.fieldLink RX5 7 "BallastTrackModel" "s" "[I") (List.mem_of_getElem? (i := 1) rfl)) (fun _ h9 => h9) rfl dX5_hangs_6 ?_
  refine lv_iconst (v := 2) hx hb dX5_hangs_9 (by decide) ?_
  obtain ⟨hi6, hf⟩ := ix_i hf
  refine va_iald hx hb hK hP 1 0 rfl rfl hi6 dX5_hangs_10 ?_
  refine lv_topi (fun x7 ex7 => ?_)
  replace hf := nm_i hf ex7
  refine lv_icmp_le (tgt := 18) hx hb dX5_hangs_11 (by decide) (fun c8 => ?_) (fun c8 => ?_)
  · replace hf := it_t hf c8
    refine lv_iconst (v := 0) hx hb dX5_hangs_18 (by decide) ?_
    obtain rfl := Option.some.inj hf
    subst hQ
    exact en_z (v := false) hx hb hr hP hS hlocks dX5_hangs_19
  · replace hf := it_f hf c8
    refine lv_iconst (v := 1) hx hb dX5_hangs_14 (by decide) ?_
    refine lv_goto (tgt := 19) hx hb dX5_hangs_15 (by decide) ?_
    obtain rfl := Option.some.inj hf
    subst hQ
    exact en_z (v := true) hx hb hr hP hS hlocks dX5_hangs_19
theorem iw_X5_defect_X5 : ∀ w ∈ u_ws RX5 TX5 12, w ∈ wsX5_defect := by decide +kernel
def f_X5_defect (fu : Nat) (u_mo : TM) (p0 : Int32) : Option (Int32) :=
ix ((3 : Int32)) 281 <|
nm ((M_ss u_mo) ((3 : Int32)).toNatClampNeg) fun (x20 : Int32) =>
if p0 < x20 then (
some ((0 : Int32))
)
else (
ix ((0 : Int32)) 281 <|
nm ((M_ss u_mo) ((0 : Int32)).toNatClampNeg) fun (x23 : Int32) =>
nm (x23 - x20) fun (x24 : Int32) =>
if p0 < x24 then (
ix p0 60 <|
nm ((M_ra u_mo) p0.toNatClampNeg) fun (x27 : Int32) =>
nm ((2 : Int32) * x27) fun (x28 : Int32) =>
nm (p0 - x20) fun (x29 : Int32) =>
ix x29 60 <|
nm ((M_ra u_mo) x29.toNatClampNeg) fun (x31 : Int32) =>
nm (x28 - x31) fun (x32 : Int32) =>
nm (p0 + x20) fun (x33 : Int32) =>
ix x33 60 <|
nm ((M_ra u_mo) x33.toNatClampNeg) fun (x35 : Int32) =>
nm (x32 - x35) fun (x36 : Int32) =>
some (x36)
)
else (
some ((0 : Int32))
)
)

abbrev rm_X5_defect : Room := { frames := 0, cells := 0, slots := 0, locals := 0 }
set_option maxHeartbeats 4000000 in
set_option maxRecDepth 100000 in
theorem c_X5_defect (l : Launch) (D : va_G) (cT : Nat → ClassId) (g : Nat → Nat) (b : Nat) (fu : Nat) (u_mo : TM) (p0 : Int32) (o : Int32) (hf : f_X5_defect fu u_mo p0 = some o) (sz : Nat) : Met l yX5_defect wsX5_defect rm_X5_defect (va_Pc [.ref (g b), .int p0] (PRE D cT sz (List.flatten [wM cT g b u_mo]))) (QI D o (List.flatten [wM cT g b u_mo]) (va_A (List.flatten [wM cT g b u_mo]) sz)) 0 0 (va_A (List.flatten [wM cT g b u_mo]) sz) := by
  refine Met.ofW (cc := cX5_defect) (maxL := 3) (ret := (some .int)) (by decide) rfl ?_
  intro p e s m args below meth c s₁ B0 hml hv
  obtain ⟨hav, hsz, hP, hK, hD, hN, hZ⟩ := hv
  have hx := B0.exec
  have hb := B0.bytes
  have hr := B0.returns
  have hts := atoms_spec (ws := wsX5_defect) B0.pre
  have hown : s.vm.findClass RX5 = some m.cls := findClass_of_methodNamed B0.named
  have hlocks := B0.notSynchronized
  subst hsz
  have hD := hD.self (sz := s.heap.size)
  have hA : ∀ q : Nat, s.heap.size ≤ q → va_A (List.flatten [wM cT g b u_mo]) s.heap.size q := fun q h => Or.inr h
  generalize va_A (List.flatten [wM cT g b u_mo]) s.heap.size = A at hD hZ hA ⊢
  have hS : va_S A s.heap s.heap [] := va_S.rf
  have hl := lv_entry ([.ref (g b), .int p0]) (n := 3) (Nat.le_of_ble_eq_true rfl)
  rw [hav]
  rw [lg_entry_eq]
  generalize (lg_sl ([.ref (g b), .int p0]) ++ List.replicate (3 - (lg_sl ([.ref (g b), .int p0])).length) Slot.unset).toArray = ls at hl ⊢
  have hl : lv_has ls 3 [(0, .ref (g b)), (1, .int p0)] := hl
  rw [← hav]
  generalize hQ : MQ below _ _ _ _ _ _ = Q
  show W p l e rm_X5_defect s m args below meth c s.heap [] 0 0 Q (F0 m 0 ls [])
  unfold f_X5_defect at hf
  refine lv_aload_n hx hb dX5_defect_0 rfl (lv_at hl 0 rfl) ?_
  refine va_get (ci := 5) (v := .ref (g (b + 1))) (C := RX5) (T := TX5) (N := 12) hx hb hts iw_X5_defect_X5 hown hK hP 0 rfl rfl 0 (by decide) (hts (.fieldLink RX5 7 "BallastTrackModel" "s" "[I") (List.mem_of_getElem? (i := 1) rfl)) (fun _ h9 => h9) rfl dX5_defect_1 ?_
  refine lv_iconst (v := 3) hx hb dX5_defect_4 (by decide) ?_
  obtain ⟨hi19, hf⟩ := ix_i hf
  refine va_iald hx hb hK hP 1 0 rfl rfl hi19 dX5_defect_5 ?_
  refine lv_topi (fun x20 ex20 => ?_)
  replace hf := nm_i hf ex20
  refine lv_istore_n (lv' := [(2, .int x20), (0, .ref (g b)), (1, .int p0)]) hx hb dX5_defect_6 rfl hl (by decide) rfl (fun ls hl => ?_)
  refine lv_iload_n hx hb dX5_defect_7 rfl (lv_at hl 2 rfl) ?_
  refine lv_iload_n hx hb dX5_defect_8 rfl (lv_at hl 0 rfl) ?_
  refine lv_icmp_lt (tgt := 24) hx hb dX5_defect_9 (by decide) (fun c21 => ?_) (fun c21 => ?_)
  · replace hf := it_t hf c21
    refine lv_iconst (v := 0) hx hb dX5_defect_24 (by decide) ?_
    obtain rfl := Option.some.inj hf
    subst hQ
    exact en_i hx hb hr hP hS hlocks dX5_defect_25
  · replace hf := it_f hf c21
    refine lv_iload_n hx hb dX5_defect_12 rfl (lv_at hl 2 rfl) ?_
    refine lv_aload_n hx hb dX5_defect_13 rfl (lv_at hl 1 rfl) ?_
    refine va_get (ci := 5) (v := .ref (g (b + 1))) (C := RX5) (T := TX5) (N := 12) hx hb hts iw_X5_defect_X5 hown hK hP 0 rfl rfl 0 (by decide) (hts (.fieldLink RX5 7 "BallastTrackModel" "s" "[I") (List.mem_of_getElem? (i := 1) rfl)) (fun _ h9 => h9) rfl dX5_defect_14 ?_
    refine lv_iconst (v := 0) hx hb dX5_defect_17 (by decide) ?_
    obtain ⟨hi22, hf⟩ := ix_i hf
    refine va_iald hx hb hK hP 1 0 rfl rfl hi22 dX5_defect_18 ?_
    refine lv_topi (fun x23 ex23 => ?_)
    replace hf := nm_i hf ex23
    refine lv_iload_n hx hb dX5_defect_19 rfl (lv_at hl 0 rfl) ?_
    refine lv_isub hx hb dX5_defect_20 ?_
    refine lv_topi (fun x24 ex24 => ?_)
    replace hf := nm_i hf ex24
    refine lv_icmp_lt (tgt := 26) hx hb dX5_defect_21 (by decide) (fun c25 => ?_) (fun c25 => ?_)
    · replace hf := it_t hf c25
      refine lv_iconst (v := 2) hx hb dX5_defect_26 (by decide) ?_
      refine lv_aload_n hx hb dX5_defect_27 rfl (lv_at hl 1 rfl) ?_
      refine va_get (ci := 5) (v := .ref (g (b + 6))) (C := RX5) (T := TX5) (N := 12) hx hb hts iw_X5_defect_X5 hown hK hP 0 rfl rfl 8 (by decide) (hts (.fieldLink RX5 26 "BallastTrackModel" "rail" "[I") (List.mem_of_getElem? (i := 2) rfl)) (fun _ h9 => h9) rfl dX5_defect_28 ?_
      refine lv_iload_n hx hb dX5_defect_31 rfl (lv_at hl 2 rfl) ?_
      obtain ⟨hi26, hf⟩ := ix_i hf
      refine va_iald hx hb hK hP 6 0 rfl rfl hi26 dX5_defect_32 ?_
      refine lv_topi (fun x27 ex27 => ?_)
      replace hf := nm_i hf ex27
      refine lv_imul hx hb dX5_defect_33 ?_
      refine lv_topi (fun x28 ex28 => ?_)
      replace hf := nm_i hf ex28
      refine lv_aload_n hx hb dX5_defect_34 rfl (lv_at hl 1 rfl) ?_
      refine va_get (ci := 5) (v := .ref (g (b + 6))) (C := RX5) (T := TX5) (N := 12) hx hb hts iw_X5_defect_X5 hown hK hP 0 rfl rfl 8 (by decide) (hts (.fieldLink RX5 26 "BallastTrackModel" "rail" "[I") (List.mem_of_getElem? (i := 2) rfl)) (fun _ h9 => h9) rfl dX5_defect_35 ?_
      refine lv_iload_n hx hb dX5_defect_38 rfl (lv_at hl 2 rfl) ?_
      refine lv_iload_n hx hb dX5_defect_39 rfl (lv_at hl 0 rfl) ?_
      refine lv_isub hx hb dX5_defect_40 ?_
      refine lv_topi (fun x29 ex29 => ?_)
      replace hf := nm_i hf ex29
      obtain ⟨hi30, hf⟩ := ix_i hf
      refine va_iald hx hb hK hP 6 0 rfl rfl hi30 dX5_defect_41 ?_
      refine lv_topi (fun x31 ex31 => ?_)
      replace hf := nm_i hf ex31
      refine lv_isub hx hb dX5_defect_42 ?_
      refine lv_topi (fun x32 ex32 => ?_)
      replace hf := nm_i hf ex32
      refine lv_aload_n hx hb dX5_defect_43 rfl (lv_at hl 1 rfl) ?_
      refine va_get (ci := 5) (v := .ref (g (b + 6))) (C := RX5) (T := TX5) (N := 12) hx hb hts iw_X5_defect_X5 hown hK hP 0 rfl rfl 8 (by decide) (hts (.fieldLink RX5 26 "BallastTrackModel" "rail" "[I") (List.mem_of_getElem? (i := 2) rfl)) (fun _ h9 => h9) rfl dX5_defect_44 ?_
      refine lv_iload_n hx hb dX5_defect_47 rfl (lv_at hl 2 rfl) ?_
      refine lv_iload_n hx hb dX5_defect_48 rfl (lv_at hl 0 rfl) ?_
      refine lv_iadd hx hb dX5_defect_49 ?_
      refine lv_topi (fun x33 ex33 => ?_)
      replace hf := nm_i hf ex33
      obtain ⟨hi34, hf⟩ := ix_i hf
      refine va_iald hx hb hK hP 6 0 rfl rfl hi34 dX5_defect_50 ?_
      refine lv_topi (fun x35 ex35 => ?_)
      replace hf := nm_i hf ex35
      refine lv_isub hx hb dX5_defect_51 ?_
      refine lv_topi (fun x36 ex36 => ?_)
      replace hf := nm_i hf ex36
      obtain rfl := Option.some.inj hf
      subst hQ
      exact en_i hx hb hr hP hS hlocks dX5_defect_52
    · replace hf := it_f hf c25
      refine lv_iconst (v := 0) hx hb dX5_defect_24 (by decide) ?_
      obtain rfl := Option.some.inj hf
      subst hQ
      exact en_i hx hb hr hP hS hlocks dX5_defect_25
