def f_X5_in (fu : Nat)  (p0 : Int32) (p1 : Int32) (p2 : Int32) : Option (Bool) :=
jn (some (false)
) fun K14_7 =>
if p0 < p1 then (
K14_7 
)
else (
if p2 < p0 then (
K14_7 
)
else (
some (true)
)
)

abbrev rm_X5_in : Room := { frames := 0, cells := 0, slots := 0, locals := 0 }
set_option maxHeartbeats 4000000 in
set_option maxRecDepth 100000 in
theorem c_X5_in (l : Launch) (D : va_G) (cT : Nat → ClassId) (g : Nat → Nat) (fu : Nat)  (p0 : Int32) (p1 : Int32) (p2 : Int32) (o : Bool) (hf : f_X5_in fu  p0 p1 p2 = some o) (sz : Nat) : Met l yX5_in wsX5_in rm_X5_in (va_Pc [.int p0, .int p1, .int p2] (PRE D cT sz (List.flatten []))) (QI D (bI o) (List.flatten []) (va_A (List.flatten []) sz)) 0 0 (va_A (List.flatten []) sz) := by
  refine Met.ofW (cc := cX5_in) (maxL := 3) (ret := (some .boolean)) (by decide) rfl ?_
  intro p e s m args below meth c s₁ B0 hml hv
  obtain ⟨hav, hsz, hP, hK, hD, hN, hZ⟩ := hv
  have hx := B0.exec
  have hb := B0.bytes
  have hr := B0.returns
  have hts := atoms_spec (ws := wsX5_in) B0.pre
  have hown : s.vm.findClass RX5 = some m.cls := findClass_of_methodNamed B0.named
  have hlocks := B0.notSynchronized
  subst hsz
  have hD := hD.self (sz := s.heap.size)
  have hA : ∀ q : Nat, s.heap.size ≤ q → va_A (List.flatten []) s.heap.size q := fun q h => Or.inr h
  generalize va_A (List.flatten []) s.heap.size = A at hD hZ hA ⊢
  have hS : va_S A s.heap s.heap [] := va_S.rf
  have hl := lv_entry ([.int p0, .int p1, .int p2]) (n := 3) (Nat.le_of_ble_eq_true rfl)
  rw [hav]
  rw [lg_entry_eq]
  generalize (lg_sl ([.int p0, .int p1, .int p2]) ++ List.replicate (3 - (lg_sl ([.int p0, .int p1, .int p2])).length) Slot.unset).toArray = ls at hl ⊢
  have hl : lv_has ls 3 [(0, .int p0), (1, .int p1), (2, .int p2)] := hl
  rw [← hav]
  generalize hQ : MQ below _ _ _ _ _ _ = Q
  show W p l e rm_X5_in s m args below meth c s.heap [] 0 0 Q (F0 m 0 ls [])
  unfold f_X5_in at hf
  refine lv_iload_n hx hb dX5_in_0 rfl (lv_at hl 0 rfl) ?_
  refine lv_iload_n hx hb dX5_in_1 rfl (lv_at hl 1 rfl) ?_
  obtain ⟨K14_7, eK14_7, hf⟩ := jn_i hf
  have hK14_7 : ∀  (H : Heap) (locs : List Loc) (ls : Array Slot), K14_7  = some o → va_P D vwCl (List.flatten []) H → va_S A s.heap H locs → lv_has ls 3 [] → W p l e rm_X5_in s m args below meth c H locs 0 0 Q (F0 m 14 ls []) := by
    intro  H locs ls hf hP hS hl
    rw [eK14_7] at hf
    refine lv_iconst (v := 0) hx hb dX5_in_14 (by decide) ?_
    obtain rfl := Option.some.inj hf
    subst hQ
    exact en_z (v := false) hx hb hr hP hS hlocks dX5_in_15
  clear eK14_7
  refine lv_icmp_lt (tgt := 14) hx hb dX5_in_2 (by decide) (fun c8 => ?_) (fun c8 => ?_)
  · replace hf := it_t hf c8
    exact hK14_7  _ _ _ hf hP hS (lv_sub hl [] rfl)
  · replace hf := it_f hf c8
    refine lv_iload_n hx hb dX5_in_5 rfl (lv_at hl 0 rfl) ?_
    refine lv_iload_n hx hb dX5_in_6 rfl (lv_at hl 2 rfl) ?_
    refine lv_icmp_gt (tgt := 14) hx hb dX5_in_7 (by decide) (fun c9 => ?_) (fun c9 => ?_)
    · replace hf := it_t hf c9
      exact hK14_7  _ _ _ hf hP hS (lv_sub hl [] rfl)
    · replace hf := it_f hf c9
      refine lv_iconst (v := 1) hx hb dX5_in_10 (by decide) ?_
      refine lv_goto (tgt := 15) hx hb dX5_in_11 (by decide) ?_
      obtain rfl := Option.some.inj hf
      subst hQ
      exact en_z (v := true) hx hb hr hP hS hlocks dX5_in_15
def f_X5_lesser (fu : Nat)  (p0 : Int32) (p1 : Int32) : Option (Int32) :=
if p1 ≤ p0 then (
some (p1)
)
else (
some (p0)
)

abbrev rm_X5_lesser : Room := { frames := 0, cells := 0, slots := 0, locals := 0 }
set_option maxHeartbeats 4000000 in
set_option maxRecDepth 100000 in
theorem c_X5_lesser (l : Launch) (D : va_G) (cT : Nat → ClassId) (g : Nat → Nat) (fu : Nat)  (p0 : Int32) (p1 : Int32) (o : Int32) (hf : f_X5_lesser fu  p0 p1 = some o) (sz : Nat) : Met l yX5_lesser wsX5_lesser rm_X5_lesser (va_Pc [.int p0, .int p1] (PRE D cT sz (List.flatten []))) (QI D o (List.flatten []) (va_A (List.flatten []) sz)) 0 0 (va_A (List.flatten []) sz) := by
  refine Met.ofW (cc := cX5_lesser) (maxL := 2) (ret := (some .int)) (by decide) rfl ?_
  intro p e s m args below meth c s₁ B0 hml hv
  obtain ⟨hav, hsz, hP, hK, hD, hN, hZ⟩ := hv
  have hx := B0.exec
  have hb := B0.bytes
  have hr := B0.returns
  have hts := atoms_spec (ws := wsX5_lesser) B0.pre
  have hown : s.vm.findClass RX5 = some m.cls := findClass_of_methodNamed B0.named
  have hlocks := B0.notSynchronized
  subst hsz
  have hD := hD.self (sz := s.heap.size)
  have hA : ∀ q : Nat, s.heap.size ≤ q → va_A (List.flatten []) s.heap.size q := fun q h => Or.inr h
  generalize va_A (List.flatten []) s.heap.size = A at hD hZ hA ⊢
  have hS : va_S A s.heap s.heap [] := va_S.rf
  have hl := lv_entry ([.int p0, .int p1]) (n := 2) (Nat.le_of_ble_eq_true rfl)
  rw [hav]
  rw [lg_entry_eq]
  generalize (lg_sl ([.int p0, .int p1]) ++ List.replicate (2 - (lg_sl ([.int p0, .int p1])).length) Slot.unset).toArray = ls at hl ⊢
  have hl : lv_has ls 2 [(0, .int p0), (1, .int p1)] := hl
  rw [← hav]
  generalize hQ : MQ below _ _ _ _ _ _ = Q
  show W p l e rm_X5_lesser s m args below meth c s.heap [] 0 0 Q (F0 m 0 ls [])
  unfold f_X5_lesser at hf
  refine lv_iload_n hx hb dX5_lesser_0 rfl (lv_at hl 0 rfl) ?_
  refine lv_iload_n hx hb dX5_lesser_1 rfl (lv_at hl 1 rfl) ?_
  refine lv_icmp_ge (tgt := 9) hx hb dX5_lesser_2 (by decide) (fun c2 => ?_) (fun c2 => ?_)
  · replace hf := it_t hf c2
    refine lv_iload_n hx hb dX5_lesser_9 rfl (lv_at hl 1 rfl) ?_
    obtain rfl := Option.some.inj hf
    subst hQ
    exact en_i hx hb hr hP hS hlocks dX5_lesser_10
  · replace hf := it_f hf c2
    refine lv_iload_n hx hb dX5_lesser_5 rfl (lv_at hl 0 rfl) ?_
    refine lv_goto (tgt := 10) hx hb dX5_lesser_6 (by decide) ?_
    obtain rfl := Option.some.inj hf
    subst hQ
    exact en_i hx hb hr hP hS hlocks dX5_lesser_10
def f_X5_greater (fu : Nat)  (p0 : Int32) (p1 : Int32) : Option (Int32) :=
if p0 ≤ p1 then (
some (p1)
)
else (
some (p0)
)

abbrev rm_X5_greater : Room := { frames := 0, cells := 0, slots := 0, locals := 0 }
set_option maxHeartbeats 4000000 in
set_option maxRecDepth 100000 in
theorem c_X5_greater (l : Launch) (D : va_G) (cT : Nat → ClassId) (g : Nat → Nat) (fu : Nat)  (p0 : Int32) (p1 : Int32) (o : Int32) (hf : f_X5_greater fu  p0 p1 = some o) (sz : Nat) : Met l yX5_greater wsX5_greater rm_X5_greater (va_Pc [.int p0, .int p1] (PRE D cT sz (List.flatten []))) (QI D o (List.flatten []) (va_A (List.flatten []) sz)) 0 0 (va_A (List.flatten []) sz) := by
  refine Met.ofW (cc := cX5_greater) (maxL := 2) (ret := (some .int)) (by decide) rfl ?_
  intro p e s m args below meth c s₁ B0 hml hv
  obtain ⟨hav, hsz, hP, hK, hD, hN, hZ⟩ := hv
  have hx := B0.exec
  have hb := B0.bytes
  have hr := B0.returns
  have hts := atoms_spec (ws := wsX5_greater) B0.pre
  have hown : s.vm.findClass RX5 = some m.cls := findClass_of_methodNamed B0.named
  have hlocks := B0.notSynchronized
  subst hsz
  have hD := hD.self (sz := s.heap.size)
  have hA : ∀ q : Nat, s.heap.size ≤ q → va_A (List.flatten []) s.heap.size q := fun q h => Or.inr h
  generalize va_A (List.flatten []) s.heap.size = A at hD hZ hA ⊢
  have hS : va_S A s.heap s.heap [] := va_S.rf
  have hl := lv_entry ([.int p0, .int p1]) (n := 2) (Nat.le_of_ble_eq_true rfl)
  rw [hav]
  rw [lg_entry_eq]
  generalize (lg_sl ([.int p0, .int p1]) ++ List.replicate (2 - (lg_sl ([.int p0, .int p1])).length) Slot.unset).toArray = ls at hl ⊢
  have hl : lv_has ls 2 [(0, .int p0), (1, .int p1)] := hl
  rw [← hav]
  generalize hQ : MQ below _ _ _ _ _ _ = Q
  show W p l e rm_X5_greater s m args below meth c s.heap [] 0 0 Q (F0 m 0 ls [])
  unfold f_X5_greater at hf
  refine lv_iload_n hx hb dX5_greater_0 rfl (lv_at hl 0 rfl) ?_
  refine lv_iload_n hx hb dX5_greater_1 rfl (lv_at hl 1 rfl) ?_
  refine lv_icmp_le (tgt := 9) hx hb dX5_greater_2 (by decide) (fun c2 => ?_) (fun c2 => ?_)
  · replace hf := it_t hf c2
    refine lv_iload_n hx hb dX5_greater_9 rfl (lv_at hl 1 rfl) ?_
    obtain rfl := Option.some.inj hf
    subst hQ
    exact en_i hx hb hr hP hS hlocks dX5_greater_10
  · replace hf := it_f hf c2
    refine lv_iload_n hx hb dX5_greater_5 rfl (lv_at hl 0 rfl) ?_
    refine lv_goto (tgt := 10) hx hb dX5_greater_6 (by decide) ?_
    obtain rfl := Option.some.inj hf
    subst hQ
    exact en_i hx hb hr hP hS hlocks dX5_greater_10
def f_X5_size (fu : Nat)  (p0 : Int32) : Option (Int32) :=
if 0 ≤ p0 then (
some (p0)
)
else (
nm (-p0) fun (x4 : Int32) =>
some (x4)
)

abbrev rm_X5_size : Room := { frames := 0, cells := 0, slots := 0, locals := 0 }
set_option maxHeartbeats 4000000 in
set_option maxRecDepth 100000 in
theorem c_X5_size (l : Launch) (D : va_G) (cT : Nat → ClassId) (g : Nat → Nat) (fu : Nat)  (p0 : Int32) (o : Int32) (hf : f_X5_size fu  p0 = some o) (sz : Nat) : Met l yX5_size wsX5_size rm_X5_size (va_Pc [.int p0] (PRE D cT sz (List.flatten []))) (QI D o (List.flatten []) (va_A (List.flatten []) sz)) 0 0 (va_A (List.flatten []) sz) := by
  refine Met.ofW (cc := cX5_size) (maxL := 1) (ret := (some .int)) (by decide) rfl ?_
  intro p e s m args below meth c s₁ B0 hml hv
  obtain ⟨hav, hsz, hP, hK, hD, hN, hZ⟩ := hv
  have hx := B0.exec
  have hb := B0.bytes
  have hr := B0.returns
  have hts := atoms_spec (ws := wsX5_size) B0.pre
  have hown : s.vm.findClass RX5 = some m.cls := findClass_of_methodNamed B0.named
  have hlocks := B0.notSynchronized
  subst hsz
  have hD := hD.self (sz := s.heap.size)
  have hA : ∀ q : Nat, s.heap.size ≤ q → va_A (List.flatten []) s.heap.size q := fun q h => Or.inr h
  generalize va_A (List.flatten []) s.heap.size = A at hD hZ hA ⊢
  have hS : va_S A s.heap s.heap [] := va_S.rf
  have hl := lv_entry ([.int p0]) (n := 1) (Nat.le_of_ble_eq_true rfl)
  rw [hav]
  rw [lg_entry_eq]
  generalize (lg_sl ([.int p0]) ++ List.replicate (1 - (lg_sl ([.int p0])).length) Slot.unset).toArray = ls at hl ⊢
  have hl : lv_has ls 1 [(0, .int p0)] := hl
  rw [← hav]
  generalize hQ : MQ below _ _ _ _ _ _ = Q
  show W p l e rm_X5_size s m args below meth c s.heap [] 0 0 Q (F0 m 0 ls [])
  unfold f_X5_size at hf
  refine lv_iload_n hx hb dX5_size_0 rfl (lv_at hl 0 rfl) ?_
  refine lv_if_ge (tgt := 9) hx hb dX5_size_1 (by decide) (fun c3 => ?_) (fun c3 => ?_)
  · replace hf := it_t hf c3
    refine lv_iload_n hx hb dX5_size_9 rfl (lv_at hl 0 rfl) ?_
    obtain rfl := Option.some.inj hf
    subst hQ
    exact en_i hx hb hr hP hS hlocks dX5_size_10
  · replace hf := it_f hf c3
    refine lv_iload_n hx hb dX5_size_4 rfl (lv_at hl 0 rfl) ?_
    refine lv_ineg hx hb dX5_size_5 ?_
    refine lv_topi (fun x4 ex4 => ?_)
    replace hf := nm_i hf ex4
    refine lv_goto (tgt := 10) hx hb dX5_size_6 (by decide) ?_
    obtain rfl := Option.some.inj hf
    subst hQ
    exact en_i hx hb hr hP hS hlocks dX5_size_10
theorem iw_X5_notes_X5 : ∀ w ∈ u_ws RX5 TX5 12, w ∈ wsX5_notes := by decide +kernel
def lb_X5_notes_52 (fu : Nat)  (rec : Int32 → TM → Option (TM)) (v116 : Int32) (u117 : TM) : Option (TM) :=
if (281 : Int32) ≤ v116 then (
some (u117)
)
else (
nm (M_ps u117) fun (x121 : Int32) =>
nm ((281 : Int32) * x121) fun (x122 : Int32) =>
nm (x122 + v116) fun (x123 : Int32) =>
ix v116 281 <|
nm ((M_ss u117) v116.toNatClampNeg) fun (x125 : Int32) =>
ix x123 1686 <|
nm (M_pa_ u117 (upd (M_pa u117) x123.toNatClampNeg x125)) fun (u127 : TM) =>
nm (v116 + (1 : Int32)) fun (x128 : Int32) =>
rec x128 u127
)

def lf_X5_notes_52 (fu : Nat)  : Nat → Int32 → TM → Option (TM) := lq_2 (lb_X5_notes_52 fu )
def lb_X5_notes_11 (fu : Nat)  (rec : Int32 → TM → Option (TM)) (v142 : Int32) (u143 : TM) : Option (TM) :=
if (1405 : Int32) ≤ v142 then (
some (u143)
)
else (
nm (v142 + (281 : Int32)) fun (x147 : Int32) =>
ix x147 1686 <|
nm ((M_pa u143) x147.toNatClampNeg) fun (x149 : Int32) =>
ix v142 1686 <|
nm (M_pa_ u143 (upd (M_pa u143) v142.toNatClampNeg x149)) fun (u151 : TM) =>
nm (v142 + (1 : Int32)) fun (x152 : Int32) =>
rec x152 u151
)

def lf_X5_notes_11 (fu : Nat)  : Nat → Int32 → TM → Option (TM) := lq_2 (lb_X5_notes_11 fu )
def f_X5_notes (fu : Nat) (u_mo : TM)  : Option (TM) :=
nm (M_ps u_mo) fun (x69 : Int32) =>
jn (fun (u86 : TM) =>
bd (lf_X5_notes_52 fu  fu ((0 : Int32)) u86) fun (z119 : TM) =>
nm (M_ps z119) fun (x129 : Int32) =>
nm (x129 + (1 : Int32)) fun (x130 : Int32) =>
nm (M_ps_ z119 x130) fun (u131 : TM) =>
some (u131)
) fun K50_104 =>
if ¬ x69 = (6 : Int32) then (
K50_104 u_mo
)
else (
bd (lf_X5_notes_11 fu  fu ((0 : Int32)) u_mo) fun (z145 : TM) =>
nm (M_ps z145) fun (x153 : Int32) =>
nm (x153 - (1 : Int32)) fun (x154 : Int32) =>
nm (M_ps_ z145 x154) fun (u155 : TM) =>
K50_104 u155
)

abbrev rm_X5_notes : Room := { frames := 0, cells := 0, slots := 0, locals := 0 }
set_option maxHeartbeats 4000000 in
set_option maxRecDepth 100000 in
theorem c_X5_notes (l : Launch) (D : va_G) (cT : Nat → ClassId) (g : Nat → Nat) (b : Nat) (fu : Nat) (u_mo : TM)  (o : TM) (hf : f_X5_notes fu u_mo  = some o) (sz : Nat) : Met l yX5_notes wsX5_notes rm_X5_notes (va_Pc [.ref (g b)] (PRE D cT sz (List.flatten [wM cT g b u_mo]))) (QV D (List.flatten [wM cT g b o]) (va_A (List.flatten [wM cT g b u_mo]) sz)) 0 0 (va_A (List.flatten [wM cT g b u_mo]) sz) := by
  refine Met.ofW (cc := cX5_notes) (maxL := 2) (ret := none) (by decide) rfl ?_
  intro p e s m args below meth c s₁ B0 hml hv
  obtain ⟨hav, hsz, hP, hK, hD, hN, hZ⟩ := hv
  have hx := B0.exec
  have hb := B0.bytes
  have hr := B0.returns
  have hts := atoms_spec (ws := wsX5_notes) B0.pre
  have hown : s.vm.findClass RX5 = some m.cls := findClass_of_methodNamed B0.named
  have hlocks := B0.notSynchronized
  subst hsz
  have hD := hD.self (sz := s.heap.size)
  have hA : ∀ q : Nat, s.heap.size ≤ q → va_A (List.flatten [wM cT g b u_mo]) s.heap.size q := fun q h => Or.inr h
  generalize va_A (List.flatten [wM cT g b u_mo]) s.heap.size = A at hD hZ hA ⊢
  have hS : va_S A s.heap s.heap [] := va_S.rf
  have hl := lv_entry ([.ref (g b)]) (n := 2) (Nat.le_of_ble_eq_true rfl)
  rw [hav]
  rw [lg_entry_eq]
  generalize (lg_sl ([.ref (g b)]) ++ List.replicate (2 - (lg_sl ([.ref (g b)])).length) Slot.unset).toArray = ls at hl ⊢
  have hl : lv_has ls 2 [(0, .ref (g b))] := hl
  rw [← hav]
  generalize hQ : MQ below _ _ _ _ _ _ = Q
  show W p l e rm_X5_notes s m args below meth c s.heap [] 0 0 Q (F0 m 0 ls [])
  unfold f_X5_notes at hf
  refine lv_aload_n hx hb dX5_notes_0 rfl (lv_at hl 0 rfl) ?_
  refine va_get (ci := 5) (v := .int (M_ps u_mo)) (C := RX5) (T := TX5) (N := 12) hx hb hts iw_X5_notes_X5 hown hK hP 0 rfl rfl 2 (by decide) (hts (.fieldLink RX5 32 "BallastTrackModel" "pasts" "I") (List.mem_of_getElem? (i := 1) rfl)) (fun _ h9 => h9) rfl dX5_notes_1 ?_
  refine lv_topi (fun x69 ex69 => ?_)
  replace hf := nm_i hf ex69
  refine lv_bipush (v := 6) hx hb dX5_notes_4 (by decide) ?_
  obtain ⟨K50_104, eK50_104, hf⟩ := jn_i hf
  have hK50_104 : ∀ (u86 : TM) (H : Heap) (locs : List Loc) (ls : Array Slot), K50_104 u86 = some o → va_P D vwCl (List.flatten [wM cT g b u86]) H → va_S A s.heap H locs → lv_has ls 2 [(0, .ref (g b))] → W p l e rm_X5_notes s m args below meth c H locs 0 0 Q (F0 m 50 ls []) := by
    intro u86 H locs ls hf hP hS hl
    rw [eK50_104] at hf
    refine lv_iconst (v := 0) hx hb dX5_notes_50 (by decide) ?_
    refine lv_istore_n (lv' := [(1, .int ((0 : Int32))), (0, .ref (g b))]) hx hb dX5_notes_51 rfl hl (by decide) rfl (fun ls hl => ?_)
    obtain ⟨z119, hz119, hf⟩ := bd_i hf
    have hL52 : ∀ (n : Nat) (v116 : Int32) (u117 : TM) (z118 : TM), lf_X5_notes_52 fu  n v116 u117 = some z118 → ∀ (H : Heap) (locs : List Loc) (ls : Array Slot), va_P D vwCl (List.flatten [wM cT g b u117]) H → va_S A s.heap H locs → lv_has ls 2 [(0, .ref (g b)), (1, .int v116)] → (∀ (H : Heap) (locs : List Loc) (ls : Array Slot), va_P D vwCl (List.flatten [wM cT g b z118]) H → va_S A s.heap H locs → lv_has ls 2 [(0, .ref (g b))] → W p l e rm_X5_notes s m args below meth c H locs 0 0 Q (F0 m 86 ls [])) → W p l e rm_X5_notes s m args below meth c H locs 0 0 Q (F0 m 52 ls []) := by
      refine lq_2_ind (F := lb_X5_notes_52 fu ) (fun rec ih v116 u117 z118 hf H locs ls hP hS hl kx => ?_)
      unfold lb_X5_notes_52 at hf
      refine lv_iload_n hx hb dX5_notes_52 rfl (lv_at hl 1 rfl) ?_
      refine lv_sipush (v := 281) hx hb dX5_notes_53 (by decide) ?_
      refine lv_icmp_ge (tgt := 86) hx hb dX5_notes_56 (by decide) (fun c120 => ?_) (fun c120 => ?_)
      · replace hf := it_t hf c120
        obtain rfl := Option.some.inj hf
        exact kx _ _ _ hP hS (lv_sub hl [0] rfl)
      · replace hf := it_f hf c120
        refine lv_aload_n hx hb dX5_notes_59 rfl (lv_at hl 0 rfl) ?_
        refine va_get (ci := 5) (v := .ref (g (b + 2))) (C := RX5) (T := TX5) (N := 12) hx hb hts iw_X5_notes_X5 hown hK hP 0 rfl rfl 1 (by decide) (hts (.fieldLink RX5 13 "BallastTrackModel" "past" "[I") (List.mem_of_getElem? (i := 2) rfl)) (fun _ h9 => h9) rfl dX5_notes_60 ?_
        refine lv_sipush (v := 281) hx hb dX5_notes_63 (by decide) ?_
        refine lv_aload_n hx hb dX5_notes_66 rfl (lv_at hl 0 rfl) ?_
        refine va_get (ci := 5) (v := .int (M_ps u117)) (C := RX5) (T := TX5) (N := 12) hx hb hts iw_X5_notes_X5 hown hK hP 0 rfl rfl 2 (by decide) (hts (.fieldLink RX5 32 "BallastTrackModel" "pasts" "I") (List.mem_of_getElem? (i := 1) rfl)) (fun _ h9 => h9) rfl dX5_notes_67 ?_
        refine lv_topi (fun x121 ex121 => ?_)
        replace hf := nm_i hf ex121
        refine lv_imul hx hb dX5_notes_70 ?_
        refine lv_topi (fun x122 ex122 => ?_)
        replace hf := nm_i hf ex122
        refine lv_iload_n hx hb dX5_notes_71 rfl (lv_at hl 1 rfl) ?_
        refine lv_iadd hx hb dX5_notes_72 ?_
        refine lv_topi (fun x123 ex123 => ?_)
        replace hf := nm_i hf ex123
        refine lv_aload_n hx hb dX5_notes_73 rfl (lv_at hl 0 rfl) ?_
        refine va_get (ci := 5) (v := .ref (g (b + 1))) (C := RX5) (T := TX5) (N := 12) hx hb hts iw_X5_notes_X5 hown hK hP 0 rfl rfl 0 (by decide) (hts (.fieldLink RX5 7 "BallastTrackModel" "s" "[I") (List.mem_of_getElem? (i := 3) rfl)) (fun _ h9 => h9) rfl dX5_notes_74 ?_
        refine lv_iload_n hx hb dX5_notes_77 rfl (lv_at hl 1 rfl) ?_
        obtain ⟨hi124, hf⟩ := ix_i hf
        refine va_iald hx hb hK hP 1 0 rfl rfl hi124 dX5_notes_78 ?_
        refine lv_topi (fun x125 ex125 => ?_)
        replace hf := nm_i hf ex125
        obtain ⟨hi126, hf⟩ := ix_i hf
        refine va_iast hx hb hK hP (va_D_adr hD rfl) hS 2 0 rfl rfl hi126 dX5_notes_79 (fun H locs hP _ hS => ?_)
        obtain ⟨u127, eu127⟩ : ∃ z : TM, z = M_pa_ u117 (upd (M_pa u117) x123.toNatClampNeg x125) := ⟨_, rfl⟩
        replace hf := nm_i hf eu127
        have hP : va_P D vwCl (List.flatten [wM cT g b u127]) H := by rw [eu127]; exact hP
        obtain ⟨x128, ex128⟩ : ∃ z : Int32, z = v116 + (1 : Int32) := ⟨_, rfl⟩
        replace hf := nm_i hf ex128
        refine lv_iinc (v := x128) (lv' := [(1, .int x128), (0, .ref (g b))]) hx hb dX5_notes_80 hl (k := 1) rfl (by rw [ex128]; rfl) (by decide) rfl (fun ls hl => ?_)
        refine lv_goto (tgt := 52) hx hb dX5_notes_83 (by decide) ?_
        exact ih _ _ _ hf _ _ _ hP hS (lv_sub hl [1, 0] rfl) kx
    refine hL52 fu _ _ _ hz119 _ _ _ hP hS (lv_sub hl [1, 0] rfl) (fun H locs ls hP hS hl => ?_)
    refine lv_aload_n hx hb dX5_notes_86 rfl (lv_at hl 0 rfl) ?_
    refine lv_dup hx hb dX5_notes_87 rfl ?_
    refine va_get (ci := 5) (v := .int (M_ps z119)) (C := RX5) (T := TX5) (N := 12) hx hb hts iw_X5_notes_X5 hown hK hP 0 rfl rfl 2 (by decide) (hts (.fieldLink RX5 32 "BallastTrackModel" "pasts" "I") (List.mem_of_getElem? (i := 1) rfl)) (fun _ h9 => h9) rfl dX5_notes_88 ?_
    refine lv_topi (fun x129 ex129 => ?_)
    replace hf := nm_i hf ex129
    refine lv_iconst (v := 1) hx hb dX5_notes_91 (by decide) ?_
    refine lv_iadd hx hb dX5_notes_92 ?_
    refine lv_topi (fun x130 ex130 => ?_)
    replace hf := nm_i hf ex130
    refine va_put (ci := 5) (v := .int x130) (ty := .int) (C := RX5) (T := TX5) (N := 12) hx hb hts iw_X5_notes_X5 tyX5 tyX5_ok nmX5 hown hK hP (va_D_adr hD rfl) hS 0 rfl rfl 2 (by decide) (hts (.fieldLink RX5 32 "BallastTrackModel" "pasts" "I") (List.mem_of_getElem? (i := 1) rfl)) (fun _ h9 => h9) rfl (by decide +kernel) rfl rfl (Nat.le_of_ble_eq_true rfl) dX5_notes_93 (fun H locs hP _ hS => ?_)
    obtain ⟨u131, eu131⟩ : ∃ z : TM, z = M_ps_ z119 x130 := ⟨_, rfl⟩
    replace hf := nm_i hf eu131
    have hP : va_P D vwCl (List.flatten [wM cT g b u131]) H := by rw [eu131]; exact hP
    obtain rfl := Option.some.inj hf
    subst hQ
    exact en_v hx hb hr hP hS hlocks dX5_notes_96
  clear eK50_104
  refine lv_icmp_ne (tgt := 50) hx hb dX5_notes_6 (by decide) (fun c132 => ?_) (fun c132 => ?_)
  · replace hf := it_t hf c132
    exact hK50_104 _ _ _ _ hf hP hS (lv_sub hl [0] rfl)
  · replace hf := it_f hf (not_not_intro c132)
    refine lv_iconst (v := 0) hx hb dX5_notes_9 (by decide) ?_
    refine lv_istore_n (lv' := [(1, .int ((0 : Int32))), (0, .ref (g b))]) hx hb dX5_notes_10 rfl hl (by decide) rfl (fun ls hl => ?_)
    obtain ⟨z145, hz145, hf⟩ := bd_i hf
    have hL11 : ∀ (n : Nat) (v142 : Int32) (u143 : TM) (z144 : TM), lf_X5_notes_11 fu  n v142 u143 = some z144 → ∀ (H : Heap) (locs : List Loc) (ls : Array Slot), va_P D vwCl (List.flatten [wM cT g b u143]) H → va_S A s.heap H locs → lv_has ls 2 [(0, .ref (g b)), (1, .int v142)] → (∀ (H : Heap) (locs : List Loc) (ls : Array Slot), va_P D vwCl (List.flatten [wM cT g b z144]) H → va_S A s.heap H locs → lv_has ls 2 [(0, .ref (g b))] → W p l e rm_X5_notes s m args below meth c H locs 0 0 Q (F0 m 40 ls [])) → W p l e rm_X5_notes s m args below meth c H locs 0 0 Q (F0 m 11 ls []) := by
      refine lq_2_ind (F := lb_X5_notes_11 fu ) (fun rec ih v142 u143 z144 hf H locs ls hP hS hl kx => ?_)
      unfold lb_X5_notes_11 at hf
      refine lv_iload_n hx hb dX5_notes_11 rfl (lv_at hl 1 rfl) ?_
      refine lv_sipush (v := 1405) hx hb dX5_notes_12 (by decide) ?_
      refine lv_icmp_ge (tgt := 40) hx hb dX5_notes_15 (by decide) (fun c146 => ?_) (fun c146 => ?_)
      · replace hf := it_t hf c146
        obtain rfl := Option.some.inj hf
        exact kx _ _ _ hP hS (lv_sub hl [0] rfl)
      · replace hf := it_f hf c146
        refine lv_aload_n hx hb dX5_notes_18 rfl (lv_at hl 0 rfl) ?_
        refine va_get (ci := 5) (v := .ref (g (b + 2))) (C := RX5) (T := TX5) (N := 12) hx hb hts iw_X5_notes_X5 hown hK hP 0 rfl rfl 1 (by decide) (hts (.fieldLink RX5 13 "BallastTrackModel" "past" "[I") (List.mem_of_getElem? (i := 2) rfl)) (fun _ h9 => h9) rfl dX5_notes_19 ?_
        refine lv_iload_n hx hb dX5_notes_22 rfl (lv_at hl 1 rfl) ?_
        refine lv_aload_n hx hb dX5_notes_23 rfl (lv_at hl 0 rfl) ?_
        refine va_get (ci := 5) (v := .ref (g (b + 2))) (C := RX5) (T := TX5) (N := 12) hx hb hts iw_X5_notes_X5 hown hK hP 0 rfl rfl 1 (by decide) (hts (.fieldLink RX5 13 "BallastTrackModel" "past" "[I") (List.mem_of_getElem? (i := 2) rfl)) (fun _ h9 => h9) rfl dX5_notes_24 ?_
        refine lv_iload_n hx hb dX5_notes_27 rfl (lv_at hl 1 rfl) ?_
        refine lv_sipush (v := 281) hx hb dX5_notes_28 (by decide) ?_
        refine lv_iadd hx hb dX5_notes_31 ?_
        refine lv_topi (fun x147 ex147 => ?_)
        replace hf := nm_i hf ex147
        obtain ⟨hi148, hf⟩ := ix_i hf
        refine va_iald hx hb hK hP 2 0 rfl rfl hi148 dX5_notes_32 ?_
        refine lv_topi (fun x149 ex149 => ?_)
        replace hf := nm_i hf ex149
        obtain ⟨hi150, hf⟩ := ix_i hf
        refine va_iast hx hb hK hP (va_D_adr hD rfl) hS 2 0 rfl rfl hi150 dX5_notes_33 (fun H locs hP _ hS => ?_)
        obtain ⟨u151, eu151⟩ : ∃ z : TM, z = M_pa_ u143 (upd (M_pa u143) v142.toNatClampNeg x149) := ⟨_, rfl⟩
        replace hf := nm_i hf eu151
        have hP : va_P D vwCl (List.flatten [wM cT g b u151]) H := by rw [eu151]; exact hP
        obtain ⟨x152, ex152⟩ : ∃ z : Int32, z = v142 + (1 : Int32) := ⟨_, rfl⟩
        replace hf := nm_i hf ex152
        refine lv_iinc (v := x152) (lv' := [(1, .int x152), (0, .ref (g b))]) hx hb dX5_notes_34 hl (k := 1) rfl (by rw [ex152]; rfl) (by decide) rfl (fun ls hl => ?_)
        refine lv_goto (tgt := 11) hx hb dX5_notes_37 (by decide) ?_
        exact ih _ _ _ hf _ _ _ hP hS (lv_sub hl [1, 0] rfl) kx
    refine hL11 fu _ _ _ hz145 _ _ _ hP hS (lv_sub hl [1, 0] rfl) (fun H locs ls hP hS hl => ?_)
    refine lv_aload_n hx hb dX5_notes_40 rfl (lv_at hl 0 rfl) ?_
    refine lv_dup hx hb dX5_notes_41 rfl ?_
    refine va_get (ci := 5) (v := .int (M_ps z145)) (C := RX5) (T := TX5) (N := 12) hx hb hts iw_X5_notes_X5 hown hK hP 0 rfl rfl 2 (by decide) (hts (.fieldLink RX5 32 "BallastTrackModel" "pasts" "I") (List.mem_of_getElem? (i := 1) rfl)) (fun _ h9 => h9) rfl dX5_notes_42 ?_
    refine lv_topi (fun x153 ex153 => ?_)
    replace hf := nm_i hf ex153
    refine lv_iconst (v := 1) hx hb dX5_notes_45 (by decide) ?_
    refine lv_isub hx hb dX5_notes_46 ?_
    refine lv_topi (fun x154 ex154 => ?_)
    replace hf := nm_i hf ex154
    refine va_put (ci := 5) (v := .int x154) (ty := .int) (C := RX5) (T := TX5) (N := 12) hx hb hts iw_X5_notes_X5 tyX5 tyX5_ok nmX5 hown hK hP (va_D_adr hD rfl) hS 0 rfl rfl 2 (by decide) (hts (.fieldLink RX5 32 "BallastTrackModel" "pasts" "I") (List.mem_of_getElem? (i := 1) rfl)) (fun _ h9 => h9) rfl (by decide +kernel) rfl rfl (Nat.le_of_ble_eq_true rfl) dX5_notes_47 (fun H locs hP _ hS => ?_)
    obtain ⟨u155, eu155⟩ : ∃ z : TM, z = M_ps_ z145 x154 := ⟨_, rfl⟩
    replace hf := nm_i hf eu155
    have hP : va_P D vwCl (List.flatten [wM cT g b u155]) H := by rw [eu155]; exact hP
    exact hK50_104 _ _ _ _ hf hP hS (lv_sub hl [0] rfl)
theorem iw_X5_undo_X5 : ∀ w ∈ u_ws RX5 TX5 12, w ∈ wsX5_undo := by decide +kernel
def lb_X5_undo_22 (fu : Nat)  (rec : Int32 → TM → Option (TM)) (v37 : Int32) (u38 : TM) : Option (TM) :=
if (281 : Int32) ≤ v37 then (
some (u38)
)
else (
nm (M_ps u38) fun (x42 : Int32) =>
nm ((281 : Int32) * x42) fun (x43 : Int32) =>
nm (x43 + v37) fun (x44 : Int32) =>
ix x44 1686 <|
nm ((M_pa u38) x44.toNatClampNeg) fun (x46 : Int32) =>
ix v37 281 <|
nm (M_ss_ u38 (upd (M_ss u38) v37.toNatClampNeg x46)) fun (u48 : TM) =>
nm (v37 + (1 : Int32)) fun (x49 : Int32) =>
rec x49 u48
)

def lf_X5_undo_22 (fu : Nat)  : Nat → Int32 → TM → Option (TM) := lq_2 (lb_X5_undo_22 fu )
def f_X5_undo (fu : Nat) (u_mo : TM)  : Option (Int32 × TM) :=
nm (M_ps u_mo) fun (x21 : Int32) =>
if ¬ x21 = 0 then (
nm (M_ps u_mo) fun (x23 : Int32) =>
nm (x23 - (1 : Int32)) fun (x24 : Int32) =>
nm (M_ps_ u_mo x24) fun (u25 : TM) =>
bd (lf_X5_undo_22 fu  fu ((0 : Int32)) u25) fun (z40 : TM) =>
nm (M_ps z40) fun (x50 : Int32) =>
some (x50, z40)
)
else (
some ((-100002 : Int32), u_mo)
)

abbrev rm_X5_undo : Room := { frames := 0, cells := 0, slots := 0, locals := 0 }
set_option maxHeartbeats 4000000 in
set_option maxRecDepth 100000 in
theorem c_X5_undo (l : Launch) (D : va_G) (cT : Nat → ClassId) (g : Nat → Nat) (b : Nat) (fu : Nat) (u_mo : TM)  (o : Int32 × TM) (hf : f_X5_undo fu u_mo  = some o) (sz : Nat) : Met l yX5_undo wsX5_undo rm_X5_undo (va_Pc [.ref (g b)] (PRE D cT sz (List.flatten [wM cT g b u_mo]))) (QI D o.1 (List.flatten [wM cT g b o.2]) (va_A (List.flatten [wM cT g b u_mo]) sz)) 0 0 (va_A (List.flatten [wM cT g b u_mo]) sz) := by
  refine Met.ofW (cc := cX5_undo) (maxL := 2) (ret := (some .int)) (by decide) rfl ?_
  intro p e s m args below meth c s₁ B0 hml hv
  obtain ⟨hav, hsz, hP, hK, hD, hN, hZ⟩ := hv
  have hx := B0.exec
  have hb := B0.bytes
  have hr := B0.returns
  have hts := atoms_spec (ws := wsX5_undo) B0.pre
  have hown : s.vm.findClass RX5 = some m.cls := findClass_of_methodNamed B0.named
  have hlocks := B0.notSynchronized
  subst hsz
  have hD := hD.self (sz := s.heap.size)
  have hA : ∀ q : Nat, s.heap.size ≤ q → va_A (List.flatten [wM cT g b u_mo]) s.heap.size q := fun q h => Or.inr h
  generalize va_A (List.flatten [wM cT g b u_mo]) s.heap.size = A at hD hZ hA ⊢
  have hS : va_S A s.heap s.heap [] := va_S.rf
  have hl := lv_entry ([.ref (g b)]) (n := 2) (Nat.le_of_ble_eq_true rfl)
  rw [hav]
  rw [lg_entry_eq]
  generalize (lg_sl ([.ref (g b)]) ++ List.replicate (2 - (lg_sl ([.ref (g b)])).length) Slot.unset).toArray = ls at hl ⊢
  have hl : lv_has ls 2 [(0, .ref (g b))] := hl
  rw [← hav]
  generalize hQ : MQ below _ _ _ _ _ _ = Q
  show W p l e rm_X5_undo s m args below meth c s.heap [] 0 0 Q (F0 m 0 ls [])
  unfold f_X5_undo at hf
  refine lv_aload_n hx hb dX5_undo_0 rfl (lv_at hl 0 rfl) ?_
  refine va_get (ci := 5) (v := .int (M_ps u_mo)) (C := RX5) (T := TX5) (N := 12) hx hb hts iw_X5_undo_X5 hown hK hP 0 rfl rfl 2 (by decide) (hts (.fieldLink RX5 32 "BallastTrackModel" "pasts" "I") (List.mem_of_getElem? (i := 1) rfl)) (fun _ h9 => h9) rfl dX5_undo_1 ?_
  refine lv_topi (fun x21 ex21 => ?_)
  replace hf := nm_i hf ex21
  refine lv_if_ne (tgt := 10) hx hb dX5_undo_4 (by decide) (fun c22 => ?_) (fun c22 => ?_)
  · replace hf := it_t hf c22
    refine lv_aload_n hx hb dX5_undo_10 rfl (lv_at hl 0 rfl) ?_
    refine lv_dup hx hb dX5_undo_11 rfl ?_
    refine va_get (ci := 5) (v := .int (M_ps u_mo)) (C := RX5) (T := TX5) (N := 12) hx hb hts iw_X5_undo_X5 hown hK hP 0 rfl rfl 2 (by decide) (hts (.fieldLink RX5 32 "BallastTrackModel" "pasts" "I") (List.mem_of_getElem? (i := 1) rfl)) (fun _ h9 => h9) rfl dX5_undo_12 ?_
    refine lv_topi (fun x23 ex23 => ?_)
    replace hf := nm_i hf ex23
    refine lv_iconst (v := 1) hx hb dX5_undo_15 (by decide) ?_
    refine lv_isub hx hb dX5_undo_16 ?_
    refine lv_topi (fun x24 ex24 => ?_)
    replace hf := nm_i hf ex24
    refine va_put (ci := 5) (v := .int x24) (ty := .int) (C := RX5) (T := TX5) (N := 12) hx hb hts iw_X5_undo_X5 tyX5 tyX5_ok nmX5 hown hK hP (va_D_adr hD rfl) hS 0 rfl rfl 2 (by decide) (hts (.fieldLink RX5 32 "BallastTrackModel" "pasts" "I") (List.mem_of_getElem? (i := 1) rfl)) (fun _ h9 => h9) rfl (by decide +kernel) rfl rfl (Nat.le_of_ble_eq_true rfl) dX5_undo_17 (fun H locs hP _ hS => ?_)
    obtain ⟨u25, eu25⟩ : ∃ z : TM, z = M_ps_ u_mo x24 := ⟨_, rfl⟩
    replace hf := nm_i hf eu25
    have hP : va_P D vwCl (List.flatten [wM cT g b u25]) H := by rw [eu25]; exact hP
    refine lv_iconst (v := 0) hx hb dX5_undo_20 (by decide) ?_
    refine lv_istore_n (lv' := [(1, .int ((0 : Int32))), (0, .ref (g b))]) hx hb dX5_undo_21 rfl hl (by decide) rfl (fun ls hl => ?_)
    obtain ⟨z40, hz40, hf⟩ := bd_i hf
    have hL22 : ∀ (n : Nat) (v37 : Int32) (u38 : TM) (z39 : TM), lf_X5_undo_22 fu  n v37 u38 = some z39 → ∀ (H : Heap) (locs : List Loc) (ls : Array Slot), va_P D vwCl (List.flatten [wM cT g b u38]) H → va_S A s.heap H locs → lv_has ls 2 [(0, .ref (g b)), (1, .int v37)] → (∀ (H : Heap) (locs : List Loc) (ls : Array Slot), va_P D vwCl (List.flatten [wM cT g b z39]) H → va_S A s.heap H locs → lv_has ls 2 [(0, .ref (g b))] → W p l e rm_X5_undo s m args below meth c H locs 0 0 Q (F0 m 56 ls [])) → W p l e rm_X5_undo s m args below meth c H locs 0 0 Q (F0 m 22 ls []) := by
      refine lq_2_ind (F := lb_X5_undo_22 fu ) (fun rec ih v37 u38 z39 hf H locs ls hP hS hl kx => ?_)
      unfold lb_X5_undo_22 at hf
      refine lv_iload_n hx hb dX5_undo_22 rfl (lv_at hl 1 rfl) ?_
      refine lv_sipush (v := 281) hx hb dX5_undo_23 (by decide) ?_
      refine lv_icmp_ge (tgt := 56) hx hb dX5_undo_26 (by decide) (fun c41 => ?_) (fun c41 => ?_)
      · replace hf := it_t hf c41
        obtain rfl := Option.some.inj hf
        exact kx _ _ _ hP hS (lv_sub hl [0] rfl)
      · replace hf := it_f hf c41
        refine lv_aload_n hx hb dX5_undo_29 rfl (lv_at hl 0 rfl) ?_
        refine va_get (ci := 5) (v := .ref (g (b + 1))) (C := RX5) (T := TX5) (N := 12) hx hb hts iw_X5_undo_X5 hown hK hP 0 rfl rfl 0 (by decide) (hts (.fieldLink RX5 7 "BallastTrackModel" "s" "[I") (List.mem_of_getElem? (i := 3) rfl)) (fun _ h9 => h9) rfl dX5_undo_30 ?_
        refine lv_iload_n hx hb dX5_undo_33 rfl (lv_at hl 1 rfl) ?_
        refine lv_aload_n hx hb dX5_undo_34 rfl (lv_at hl 0 rfl) ?_
        refine va_get (ci := 5) (v := .ref (g (b + 2))) (C := RX5) (T := TX5) (N := 12) hx hb hts iw_X5_undo_X5 hown hK hP 0 rfl rfl 1 (by decide) (hts (.fieldLink RX5 13 "BallastTrackModel" "past" "[I") (List.mem_of_getElem? (i := 4) rfl)) (fun _ h9 => h9) rfl dX5_undo_35 ?_
        refine lv_sipush (v := 281) hx hb dX5_undo_38 (by decide) ?_
        refine lv_aload_n hx hb dX5_undo_41 rfl (lv_at hl 0 rfl) ?_
        refine va_get (ci := 5) (v := .int (M_ps u38)) (C := RX5) (T := TX5) (N := 12) hx hb hts iw_X5_undo_X5 hown hK hP 0 rfl rfl 2 (by decide) (hts (.fieldLink RX5 32 "BallastTrackModel" "pasts" "I") (List.mem_of_getElem? (i := 1) rfl)) (fun _ h9 => h9) rfl dX5_undo_42 ?_
        refine lv_topi (fun x42 ex42 => ?_)
        replace hf := nm_i hf ex42
        refine lv_imul hx hb dX5_undo_45 ?_
        refine lv_topi (fun x43 ex43 => ?_)
        replace hf := nm_i hf ex43
        refine lv_iload_n hx hb dX5_undo_46 rfl (lv_at hl 1 rfl) ?_
        refine lv_iadd hx hb dX5_undo_47 ?_
        refine lv_topi (fun x44 ex44 => ?_)
        replace hf := nm_i hf ex44
        obtain ⟨hi45, hf⟩ := ix_i hf
        refine va_iald hx hb hK hP 2 0 rfl rfl hi45 dX5_undo_48 ?_
        refine lv_topi (fun x46 ex46 => ?_)
        replace hf := nm_i hf ex46
        obtain ⟨hi47, hf⟩ := ix_i hf
        refine va_iast hx hb hK hP (va_D_adr hD rfl) hS 1 0 rfl rfl hi47 dX5_undo_49 (fun H locs hP _ hS => ?_)
        obtain ⟨u48, eu48⟩ : ∃ z : TM, z = M_ss_ u38 (upd (M_ss u38) v37.toNatClampNeg x46) := ⟨_, rfl⟩
        replace hf := nm_i hf eu48
        have hP : va_P D vwCl (List.flatten [wM cT g b u48]) H := by rw [eu48]; exact hP
        obtain ⟨x49, ex49⟩ : ∃ z : Int32, z = v37 + (1 : Int32) := ⟨_, rfl⟩
        replace hf := nm_i hf ex49
        refine lv_iinc (v := x49) (lv' := [(1, .int x49), (0, .ref (g b))]) hx hb dX5_undo_50 hl (k := 1) rfl (by rw [ex49]; rfl) (by decide) rfl (fun ls hl => ?_)
        refine lv_goto (tgt := 22) hx hb dX5_undo_53 (by decide) ?_
        exact ih _ _ _ hf _ _ _ hP hS (lv_sub hl [1, 0] rfl) kx
    refine hL22 fu _ _ _ hz40 _ _ _ hP hS (lv_sub hl [1, 0] rfl) (fun H locs ls hP hS hl => ?_)
    refine lv_aload_n hx hb dX5_undo_56 rfl (lv_at hl 0 rfl) ?_
    refine va_get (ci := 5) (v := .int (M_ps z40)) (C := RX5) (T := TX5) (N := 12) hx hb hts iw_X5_undo_X5 hown hK hP 0 rfl rfl 2 (by decide) (hts (.fieldLink RX5 32 "BallastTrackModel" "pasts" "I") (List.mem_of_getElem? (i := 1) rfl)) (fun _ h9 => h9) rfl dX5_undo_57 ?_
    refine lv_topi (fun x50 ex50 => ?_)
    replace hf := nm_i hf ex50
    obtain rfl := Option.some.inj hf
    subst hQ
    exact en_i hx hb hr hP hS hlocks dX5_undo_60
  · replace hf := it_f hf (not_not_intro c22)
    refine lv_ldc (v := -100002) hx hb hown (hts (.constant RX5 36 (-100002)) (List.mem_of_getElem? (i := 2) rfl)) dX5_undo_7 ?_
    obtain rfl := Option.some.inj hf
    subst hQ
    exact en_i hx hb hr hP hS hlocks dX5_undo_9
theorem iw_X5_putAside_X5 : ∀ w ∈ u_ws RX5 TX5 12, w ∈ wsX5_putAside := by decide +kernel
def lb_X5_putAside_2 (fu : Nat)  (rec : Int32 → TM → Option (TM)) (v20 : Int32) (u21 : TM) : Option (TM) :=
if (281 : Int32) ≤ v20 then (
some (u21)
)
else (
ix v20 281 <|
nm ((M_ss u21) v20.toNatClampNeg) fun (x26 : Int32) =>
ix v20 281 <|
nm (M_as_ u21 (upd (M_as u21) v20.toNatClampNeg x26)) fun (u28 : TM) =>
nm (v20 + (1 : Int32)) fun (x29 : Int32) =>
rec x29 u28
)

def lf_X5_putAside_2 (fu : Nat)  : Nat → Int32 → TM → Option (TM) := lq_2 (lb_X5_putAside_2 fu )
def f_X5_putAside (fu : Nat) (u_mo : TM)  : Option (TM) :=
bd (lf_X5_putAside_2 fu  fu ((0 : Int32)) u_mo) fun (z23 : TM) =>
some (z23)

abbrev rm_X5_putAside : Room := { frames := 0, cells := 0, slots := 0, locals := 0 }
set_option maxHeartbeats 4000000 in
set_option maxRecDepth 100000 in
theorem c_X5_putAside (l : Launch) (D : va_G) (cT : Nat → ClassId) (g : Nat → Nat) (b : Nat) (fu : Nat) (u_mo : TM)  (o : TM) (hf : f_X5_putAside fu u_mo  = some o) (sz : Nat) : Met l yX5_putAside wsX5_putAside rm_X5_putAside (va_Pc [.ref (g b)] (PRE D cT sz (List.flatten [wM cT g b u_mo]))) (QV D (List.flatten [wM cT g b o]) (va_A (List.flatten [wM cT g b u_mo]) sz)) 0 0 (va_A (List.flatten [wM cT g b u_mo]) sz) := by
  refine Met.ofW (cc := cX5_putAside) (maxL := 2) (ret := none) (by decide) rfl ?_
  intro p e s m args below meth c s₁ B0 hml hv
  obtain ⟨hav, hsz, hP, hK, hD, hN, hZ⟩ := hv
  have hx := B0.exec
  have hb := B0.bytes
  have hr := B0.returns
  have hts := atoms_spec (ws := wsX5_putAside) B0.pre
  have hown : s.vm.findClass RX5 = some m.cls := findClass_of_methodNamed B0.named
  have hlocks := B0.notSynchronized
  subst hsz
  have hD := hD.self (sz := s.heap.size)
  have hA : ∀ q : Nat, s.heap.size ≤ q → va_A (List.flatten [wM cT g b u_mo]) s.heap.size q := fun q h => Or.inr h
  generalize va_A (List.flatten [wM cT g b u_mo]) s.heap.size = A at hD hZ hA ⊢
  have hS : va_S A s.heap s.heap [] := va_S.rf
  have hl := lv_entry ([.ref (g b)]) (n := 2) (Nat.le_of_ble_eq_true rfl)
  rw [hav]
  rw [lg_entry_eq]
  generalize (lg_sl ([.ref (g b)]) ++ List.replicate (2 - (lg_sl ([.ref (g b)])).length) Slot.unset).toArray = ls at hl ⊢
  have hl : lv_has ls 2 [(0, .ref (g b))] := hl
  rw [← hav]
  generalize hQ : MQ below _ _ _ _ _ _ = Q
  show W p l e rm_X5_putAside s m args below meth c s.heap [] 0 0 Q (F0 m 0 ls [])
  unfold f_X5_putAside at hf
  refine lv_iconst (v := 0) hx hb dX5_putAside_0 (by decide) ?_
  refine lv_istore_n (lv' := [(1, .int ((0 : Int32))), (0, .ref (g b))]) hx hb dX5_putAside_1 rfl hl (by decide) rfl (fun ls hl => ?_)
  obtain ⟨z23, hz23, hf⟩ := bd_i hf
  have hL2 : ∀ (n : Nat) (v20 : Int32) (u21 : TM) (z22 : TM), lf_X5_putAside_2 fu  n v20 u21 = some z22 → ∀ (H : Heap) (locs : List Loc) (ls : Array Slot), va_P D vwCl (List.flatten [wM cT g b u21]) H → va_S A s.heap H locs → lv_has ls 2 [(0, .ref (g b)), (1, .int v20)] → (∀ (H : Heap) (locs : List Loc) (ls : Array Slot), va_P D vwCl (List.flatten [wM cT g b z22]) H → va_S A s.heap H locs → lv_has ls 2 [] → W p l e rm_X5_putAside s m args below meth c H locs 0 0 Q (F0 m 27 ls [])) → W p l e rm_X5_putAside s m args below meth c H locs 0 0 Q (F0 m 2 ls []) := by
    refine lq_2_ind (F := lb_X5_putAside_2 fu ) (fun rec ih v20 u21 z22 hf H locs ls hP hS hl kx => ?_)
    unfold lb_X5_putAside_2 at hf
    refine lv_iload_n hx hb dX5_putAside_2 rfl (lv_at hl 1 rfl) ?_
    refine lv_sipush (v := 281) hx hb dX5_putAside_3 (by decide) ?_
    refine lv_icmp_ge (tgt := 27) hx hb dX5_putAside_6 (by decide) (fun c24 => ?_) (fun c24 => ?_)
    · replace hf := it_t hf c24
      obtain rfl := Option.some.inj hf
      exact kx _ _ _ hP hS (lv_sub hl [] rfl)
    · replace hf := it_f hf c24
      refine lv_aload_n hx hb dX5_putAside_9 rfl (lv_at hl 0 rfl) ?_
      refine va_get (ci := 5) (v := .ref (g (b + 4))) (C := RX5) (T := TX5) (N := 12) hx hb hts iw_X5_putAside_X5 hown hK hP 0 rfl rfl 5 (by decide) (hts (.fieldLink RX5 19 "BallastTrackModel" "aside" "[I") (List.mem_of_getElem? (i := 1) rfl)) (fun _ h9 => h9) rfl dX5_putAside_10 ?_
      refine lv_iload_n hx hb dX5_putAside_13 rfl (lv_at hl 1 rfl) ?_
      refine lv_aload_n hx hb dX5_putAside_14 rfl (lv_at hl 0 rfl) ?_
      refine va_get (ci := 5) (v := .ref (g (b + 1))) (C := RX5) (T := TX5) (N := 12) hx hb hts iw_X5_putAside_X5 hown hK hP 0 rfl rfl 0 (by decide) (hts (.fieldLink RX5 7 "BallastTrackModel" "s" "[I") (List.mem_of_getElem? (i := 2) rfl)) (fun _ h9 => h9) rfl dX5_putAside_15 ?_
      refine lv_iload_n hx hb dX5_putAside_18 rfl (lv_at hl 1 rfl) ?_
      obtain ⟨hi25, hf⟩ := ix_i hf
      refine va_iald hx hb hK hP 1 0 rfl rfl hi25 dX5_putAside_19 ?_
      refine lv_topi (fun x26 ex26 => ?_)
      replace hf := nm_i hf ex26
      obtain ⟨hi27, hf⟩ := ix_i hf
      refine va_iast hx hb hK hP (va_D_adr hD rfl) hS 4 0 rfl rfl hi27 dX5_putAside_20 (fun H locs hP _ hS => ?_)
      obtain ⟨u28, eu28⟩ : ∃ z : TM, z = M_as_ u21 (upd (M_as u21) v20.toNatClampNeg x26) := ⟨_, rfl⟩
      replace hf := nm_i hf eu28
      have hP : va_P D vwCl (List.flatten [wM cT g b u28]) H := by rw [eu28]; exact hP
      obtain ⟨x29, ex29⟩ : ∃ z : Int32, z = v20 + (1 : Int32) := ⟨_, rfl⟩
      replace hf := nm_i hf ex29
      refine lv_iinc (v := x29) (lv' := [(1, .int x29), (0, .ref (g b))]) hx hb dX5_putAside_21 hl (k := 1) rfl (by rw [ex29]; rfl) (by decide) rfl (fun ls hl => ?_)
      refine lv_goto (tgt := 2) hx hb dX5_putAside_24 (by decide) ?_
      exact ih _ _ _ hf _ _ _ hP hS (lv_sub hl [1, 0] rfl) kx
  refine hL2 fu _ _ _ hz23 _ _ _ hP hS (lv_sub hl [1, 0] rfl) (fun H locs ls hP hS hl => ?_)
  obtain rfl := Option.some.inj hf
  subst hQ
  exact en_v hx hb hr hP hS hlocks dX5_putAside_27
theorem iw_X5_putBack_X5 : ∀ w ∈ u_ws RX5 TX5 12, w ∈ wsX5_putBack := by decide +kernel
def lb_X5_putBack_2 (fu : Nat)  (rec : Int32 → TM → Option (TM)) (v20 : Int32) (u21 : TM) : Option (TM) :=
if (281 : Int32) ≤ v20 then (
some (u21)
)
else (
ix v20 281 <|
nm ((M_as u21) v20.toNatClampNeg) fun (x26 : Int32) =>
ix v20 281 <|
nm (M_ss_ u21 (upd (M_ss u21) v20.toNatClampNeg x26)) fun (u28 : TM) =>
nm (v20 + (1 : Int32)) fun (x29 : Int32) =>
rec x29 u28
)

def lf_X5_putBack_2 (fu : Nat)  : Nat → Int32 → TM → Option (TM) := lq_2 (lb_X5_putBack_2 fu )
def f_X5_putBack (fu : Nat) (u_mo : TM)  : Option (TM) :=
bd (lf_X5_putBack_2 fu  fu ((0 : Int32)) u_mo) fun (z23 : TM) =>
some (z23)

abbrev rm_X5_putBack : Room := { frames := 0, cells := 0, slots := 0, locals := 0 }
set_option maxHeartbeats 4000000 in
set_option maxRecDepth 100000 in
theorem c_X5_putBack (l : Launch) (D : va_G) (cT : Nat → ClassId) (g : Nat → Nat) (b : Nat) (fu : Nat) (u_mo : TM)  (o : TM) (hf : f_X5_putBack fu u_mo  = some o) (sz : Nat) : Met l yX5_putBack wsX5_putBack rm_X5_putBack (va_Pc [.ref (g b)] (PRE D cT sz (List.flatten [wM cT g b u_mo]))) (QV D (List.flatten [wM cT g b o]) (va_A (List.flatten [wM cT g b u_mo]) sz)) 0 0 (va_A (List.flatten [wM cT g b u_mo]) sz) := by
  refine Met.ofW (cc := cX5_putBack) (maxL := 2) (ret := none) (by decide) rfl ?_
  intro p e s m args below meth c s₁ B0 hml hv
  obtain ⟨hav, hsz, hP, hK, hD, hN, hZ⟩ := hv
  have hx := B0.exec
  have hb := B0.bytes
  have hr := B0.returns
  have hts := atoms_spec (ws := wsX5_putBack) B0.pre
  have hown : s.vm.findClass RX5 = some m.cls := findClass_of_methodNamed B0.named
  have hlocks := B0.notSynchronized
  subst hsz
  have hD := hD.self (sz := s.heap.size)
  have hA : ∀ q : Nat, s.heap.size ≤ q → va_A (List.flatten [wM cT g b u_mo]) s.heap.size q := fun q h => Or.inr h
  generalize va_A (List.flatten [wM cT g b u_mo]) s.heap.size = A at hD hZ hA ⊢
  have hS : va_S A s.heap s.heap [] := va_S.rf
  have hl := lv_entry ([.ref (g b)]) (n := 2) (Nat.le_of_ble_eq_true rfl)
  rw [hav]
  rw [lg_entry_eq]
  generalize (lg_sl ([.ref (g b)]) ++ List.replicate (2 - (lg_sl ([.ref (g b)])).length) Slot.unset).toArray = ls at hl ⊢
  have hl : lv_has ls 2 [(0, .ref (g b))] := hl
  rw [← hav]
  generalize hQ : MQ below _ _ _ _ _ _ = Q
  show W p l e rm_X5_putBack s m args below meth c s.heap [] 0 0 Q (F0 m 0 ls [])
  unfold f_X5_putBack at hf
  refine lv_iconst (v := 0) hx hb dX5_putBack_0 (by decide) ?_
  refine lv_istore_n (lv' := [(1, .int ((0 : Int32))), (0, .ref (g b))]) hx hb dX5_putBack_1 rfl hl (by decide) rfl (fun ls hl => ?_)
  obtain ⟨z23, hz23, hf⟩ := bd_i hf
  have hL2 : ∀ (n : Nat) (v20 : Int32) (u21 : TM) (z22 : TM), lf_X5_putBack_2 fu  n v20 u21 = some z22 → ∀ (H : Heap) (locs : List Loc) (ls : Array Slot), va_P D vwCl (List.flatten [wM cT g b u21]) H → va_S A s.heap H locs → lv_has ls 2 [(0, .ref (g b)), (1, .int v20)] → (∀ (H : Heap) (locs : List Loc) (ls : Array Slot), va_P D vwCl (List.flatten [wM cT g b z22]) H → va_S A s.heap H locs → lv_has ls 2 [] → W p l e rm_X5_putBack s m args below meth c H locs 0 0 Q (F0 m 27 ls [])) → W p l e rm_X5_putBack s m args below meth c H locs 0 0 Q (F0 m 2 ls []) := by
    refine lq_2_ind (F := lb_X5_putBack_2 fu ) (fun rec ih v20 u21 z22 hf H locs ls hP hS hl kx => ?_)
    unfold lb_X5_putBack_2 at hf
    refine lv_iload_n hx hb dX5_putBack_2 rfl (lv_at hl 1 rfl) ?_
    refine lv_sipush (v := 281) hx hb dX5_putBack_3 (by decide) ?_
    refine lv_icmp_ge (tgt := 27) hx hb dX5_putBack_6 (by decide) (fun c24 => ?_) (fun c24 => ?_)
    · replace hf := it_t hf c24
      obtain rfl := Option.some.inj hf
      exact kx _ _ _ hP hS (lv_sub hl [] rfl)
    · replace hf := it_f hf c24
      refine lv_aload_n hx hb dX5_putBack_9 rfl (lv_at hl 0 rfl) ?_
      refine va_get (ci := 5) (v := .ref (g (b + 1))) (C := RX5) (T := TX5) (N := 12) hx hb hts iw_X5_putBack_X5 hown hK hP 0 rfl rfl 0 (by decide) (hts (.fieldLink RX5 7 "BallastTrackModel" "s" "[I") (List.mem_of_getElem? (i := 1) rfl)) (fun _ h9 => h9) rfl dX5_putBack_10 ?_
      refine lv_iload_n hx hb dX5_putBack_13 rfl (lv_at hl 1 rfl) ?_
      refine lv_aload_n hx hb dX5_putBack_14 rfl (lv_at hl 0 rfl) ?_
      refine va_get (ci := 5) (v := .ref (g (b + 4))) (C := RX5) (T := TX5) (N := 12) hx hb hts iw_X5_putBack_X5 hown hK hP 0 rfl rfl 5 (by decide) (hts (.fieldLink RX5 19 "BallastTrackModel" "aside" "[I") (List.mem_of_getElem? (i := 2) rfl)) (fun _ h9 => h9) rfl dX5_putBack_15 ?_
      refine lv_iload_n hx hb dX5_putBack_18 rfl (lv_at hl 1 rfl) ?_
      obtain ⟨hi25, hf⟩ := ix_i hf
      refine va_iald hx hb hK hP 4 0 rfl rfl hi25 dX5_putBack_19 ?_
      refine lv_topi (fun x26 ex26 => ?_)
      replace hf := nm_i hf ex26
      obtain ⟨hi27, hf⟩ := ix_i hf
      refine va_iast hx hb hK hP (va_D_adr hD rfl) hS 1 0 rfl rfl hi27 dX5_putBack_20 (fun H locs hP _ hS => ?_)
      obtain ⟨u28, eu28⟩ : ∃ z : TM, z = M_ss_ u21 (upd (M_ss u21) v20.toNatClampNeg x26) := ⟨_, rfl⟩
      replace hf := nm_i hf eu28
      have hP : va_P D vwCl (List.flatten [wM cT g b u28]) H := by rw [eu28]; exact hP
      obtain ⟨x29, ex29⟩ : ∃ z : Int32, z = v20 + (1 : Int32) := ⟨_, rfl⟩
      replace hf := nm_i hf ex29
      refine lv_iinc (v := x29) (lv' := [(1, .int x29), (0, .ref (g b))]) hx hb dX5_putBack_21 hl (k := 1) rfl (by rw [ex29]; rfl) (by decide) rfl (fun ls hl => ?_)
      refine lv_goto (tgt := 2) hx hb dX5_putBack_24 (by decide) ?_
      exact ih _ _ _ hf _ _ _ hP hS (lv_sub hl [1, 0] rfl) kx
  refine hL2 fu _ _ _ hz23 _ _ _ hP hS (lv_sub hl [1, 0] rfl) (fun H locs ls hP hS hl => ?_)
  obtain rfl := Option.some.inj hf
  subst hQ
  exact en_v hx hb hr hP hS hlocks dX5_putBack_27
theorem iw_X5_isSleeper_X5 : ∀ w ∈ u_ws RX5 TX5 12, w ∈ wsX5_isSleeper := by decide +kernel
def f_X5_isSleeper (fu : Nat) (u_mo : TM) (p0 : Int32) : Option (Bool) :=
nm (M_ss u_mo 0) fun (x4 : Int32) =>
nm (x4 - (1 : Int32)) fun (x5 : Int32) =>
bd (f_X5_in fu  p0 ((0 : Int32)) x5) fun (o6 : Bool) =>
some (o6)

abbrev rm_X5_isSleeper : Room := { frames := 1, cells := 0, slots := 0, locals := 22 }
set_option maxHeartbeats 4000000 in
set_option maxRecDepth 100000 in
theorem c_X5_isSleeper (l : Launch) (D : va_G) (cT : Nat → ClassId) (g : Nat → Nat) (b : Nat) (fu : Nat) (u_mo : TM) (p0 : Int32) (o : Bool) (hf : f_X5_isSleeper fu u_mo p0 = some o) (sz : Nat) : Met l yX5_isSleeper wsX5_isSleeper rm_X5_isSleeper (va_Pc [.ref (g b), .int p0] (PRE D cT sz (List.flatten [wM cT g b u_mo]))) (QI D (bI o) (List.flatten [wM cT g b u_mo]) (va_A (List.flatten [wM cT g b u_mo]) sz)) 0 0 (va_A (List.flatten [wM cT g b u_mo]) sz) := by
  refine Met.ofW (cc := cX5_isSleeper) (maxL := 2) (ret := (some .boolean)) (by decide) rfl ?_
  intro p e s m args below meth c s₁ B0 hml hv
  obtain ⟨hav, hsz, hP, hK, hD, hN, hZ⟩ := hv
  have hx := B0.exec
  have hb := B0.bytes
  have hr := B0.returns
  have hts := atoms_spec (ws := wsX5_isSleeper) B0.pre
  have hown : s.vm.findClass RX5 = some m.cls := findClass_of_methodNamed B0.named
  have hlocks := B0.notSynchronized
  subst hsz
  have hD := hD.self (sz := s.heap.size)
  have hA : ∀ q : Nat, s.heap.size ≤ q → va_A (List.flatten [wM cT g b u_mo]) s.heap.size q := fun q h => Or.inr h
  generalize va_A (List.flatten [wM cT g b u_mo]) s.heap.size = A at hD hZ hA ⊢
  have hS : va_S A s.heap s.heap [] := va_S.rf
  have hl := lv_entry ([.ref (g b), .int p0]) (n := 2) (Nat.le_of_ble_eq_true rfl)
  rw [hav]
  rw [lg_entry_eq]
  generalize (lg_sl ([.ref (g b), .int p0]) ++ List.replicate (2 - (lg_sl ([.ref (g b), .int p0])).length) Slot.unset).toArray = ls at hl ⊢
  have hl : lv_has ls 2 [(0, .ref (g b)), (1, .int p0)] := hl
  rw [← hav]
  generalize hQ : MQ below _ _ _ _ _ _ = Q
  show W p l e rm_X5_isSleeper s m args below meth c s.heap [] 0 0 Q (F0 m 0 ls [])
  unfold f_X5_isSleeper at hf
  refine lv_iload_n hx hb dX5_isSleeper_0 rfl (lv_at hl 1 rfl) ?_
  refine lv_iconst (v := 0) hx hb dX5_isSleeper_1 (by decide) ?_
  refine lv_aload_n hx hb dX5_isSleeper_2 rfl (lv_at hl 0 rfl) ?_
  refine va_get (ci := 5) (v := .ref (g (b + 1))) (C := RX5) (T := TX5) (N := 12) hx hb hts iw_X5_isSleeper_X5 hown hK hP 0 rfl rfl 0 (by decide) (hts (.fieldLink RX5 7 "BallastTrackModel" "s" "[I") (List.mem_of_getElem? (i := 1) rfl)) (fun _ h9 => h9) rfl dX5_isSleeper_3 ?_
  refine lv_iconst (v := 0) hx hb dX5_isSleeper_6 (by decide) ?_
  refine va_iald hx hb hK hP 1 0 rfl rfl (by unfold vp_in; decide) dX5_isSleeper_7 ?_
  refine lv_topi (fun x4 ex4 => ?_)
  replace hf := nm_i hf ex4
  refine lv_iconst (v := 1) hx hb dX5_isSleeper_8 (by decide) ?_
  refine lv_isub hx hb dX5_isSleeper_9 ?_
  refine lv_topi (fun x5 ex5 => ?_)
  replace hf := nm_i hf ex5
  obtain ⟨o6, ho6, hf⟩ := bd_i hf
  refine cl_i [] [0] [wM cT g b u_mo] hP (va_D_adr hD rfl) hA hS (va_runS (As := [.int p0, .int ((0 : Int32)), .int x5]) (rest := []) ⟨hx, hb, hml, hown, hts⟩ (c_X5_in l D cT g  fu  p0 ((0 : Int32)) x5 o6 ho6 _) (va_cwS 3 hts gX5_isSleeper_X5_in rfl rfl rfl (by decide +kernel) ⟨Nat.le_of_ble_eq_true rfl, Nat.le_of_ble_eq_true rfl⟩) ⟨PRE_blind, PRE_ok [] (by decide) hP (va_D_adr hD rfl) hA hS hK hN hZ⟩ rfl rfl hl.1 rfl (lv_room (Nat.le_of_ble_eq_true rfl)) dX5_isSleeper_10 ⟨Nat.le_of_ble_eq_true rfl, Nat.le_of_ble_eq_true rfl⟩) rfl 1 rfl (by decide) (by decide) (fun H locs hP hS => ?_)
  obtain rfl := Option.some.inj hf
  subst hQ
  exact en_z hx hb hr hP hS hlocks dX5_isSleeper_13
def f_X5_isLevel (fu : Nat)  (p0 : Int32) : Option (Bool) :=
bd (f_X5_in fu  p0 ((-9999 : Int32)) ((9999 : Int32))) fun (o2 : Bool) =>
some (o2)

abbrev rm_X5_isLevel : Room := { frames := 1, cells := 0, slots := 0, locals := 22 }
set_option maxHeartbeats 4000000 in
set_option maxRecDepth 100000 in
theorem c_X5_isLevel (l : Launch) (D : va_G) (cT : Nat → ClassId) (g : Nat → Nat) (fu : Nat)  (p0 : Int32) (o : Bool) (hf : f_X5_isLevel fu  p0 = some o) (sz : Nat) : Met l yX5_isLevel wsX5_isLevel rm_X5_isLevel (va_Pc [.int p0] (PRE D cT sz (List.flatten []))) (QI D (bI o) (List.flatten []) (va_A (List.flatten []) sz)) 0 0 (va_A (List.flatten []) sz) := by
  refine Met.ofW (cc := cX5_isLevel) (maxL := 1) (ret := (some .boolean)) (by decide) rfl ?_
  intro p e s m args below meth c s₁ B0 hml hv
  obtain ⟨hav, hsz, hP, hK, hD, hN, hZ⟩ := hv
  have hx := B0.exec
  have hb := B0.bytes
  have hr := B0.returns
  have hts := atoms_spec (ws := wsX5_isLevel) B0.pre
  have hown : s.vm.findClass RX5 = some m.cls := findClass_of_methodNamed B0.named
  have hlocks := B0.notSynchronized
  subst hsz
  have hD := hD.self (sz := s.heap.size)
  have hA : ∀ q : Nat, s.heap.size ≤ q → va_A (List.flatten []) s.heap.size q := fun q h => Or.inr h
  generalize va_A (List.flatten []) s.heap.size = A at hD hZ hA ⊢
  have hS : va_S A s.heap s.heap [] := va_S.rf
  have hl := lv_entry ([.int p0]) (n := 1) (Nat.le_of_ble_eq_true rfl)
  rw [hav]
  rw [lg_entry_eq]
  generalize (lg_sl ([.int p0]) ++ List.replicate (1 - (lg_sl ([.int p0])).length) Slot.unset).toArray = ls at hl ⊢
  have hl : lv_has ls 1 [(0, .int p0)] := hl
  rw [← hav]
  generalize hQ : MQ below _ _ _ _ _ _ = Q
  show W p l e rm_X5_isLevel s m args below meth c s.heap [] 0 0 Q (F0 m 0 ls [])
  unfold f_X5_isLevel at hf
  refine lv_iload_n hx hb dX5_isLevel_0 rfl (lv_at hl 0 rfl) ?_
  refine lv_sipush (v := -9999) hx hb dX5_isLevel_1 (by decide) ?_
  refine lv_sipush (v := 9999) hx hb dX5_isLevel_4 (by decide) ?_
  obtain ⟨o2, ho2, hf⟩ := bd_i hf
  refine cl_i [] [] [] hP (va_D_adr hD rfl) hA hS (va_runS (As := [.int p0, .int ((-9999 : Int32)), .int ((9999 : Int32))]) (rest := []) ⟨hx, hb, hml, hown, hts⟩ (c_X5_in l D cT g  fu  p0 ((-9999 : Int32)) ((9999 : Int32)) o2 ho2 _) (va_cwS 3 hts gX5_isLevel_X5_in rfl rfl rfl (by decide +kernel) ⟨Nat.le_of_ble_eq_true rfl, Nat.le_of_ble_eq_true rfl⟩) ⟨PRE_blind, PRE_ok [] (by decide) hP (va_D_adr hD rfl) hA hS hK hN hZ⟩ rfl rfl hl.1 rfl (lv_room (Nat.le_of_ble_eq_true rfl)) dX5_isLevel_7 ⟨Nat.le_of_ble_eq_true rfl, Nat.le_of_ble_eq_true rfl⟩) rfl 0 rfl (by decide) (by decide) (fun H locs hP hS => ?_)
  obtain rfl := Option.some.inj hf
  subst hQ
  exact en_z hx hb hr hP hS hlocks dX5_isLevel_10
theorem iw_X5_laysRail_X5 : ∀ w ∈ u_ws RX5 TX5 12, w ∈ wsX5_laysRail := by decide +kernel
def lb_X5_laysRail_29 (fu : Nat) (v66 : Int32) (rec : Int32 → TM → Option (TM)) (v95 : Int32) (u96 : TM) : Option (TM) :=
nm (M_ss u96 0) fun (x99 : Int32) =>
if x99 ≤ v95 then (
some (u96)
)
else (
ix v66 60 <|
nm ((M_ra u96) v66.toNatClampNeg) fun (x102 : Int32) =>
nm ((41 : Int32) + v95) fun (x103 : Int32) =>
ix x103 281 <|
nm ((M_ss u96) x103.toNatClampNeg) fun (x105 : Int32) =>
nm (M_ss u96 1) fun (x106 : Int32) =>
nm (v66 - v95) fun (x107 : Int32) =>
bd (f_X5_size fu  x107) fun (o108 : Int32) =>
nm (x106 * o108) fun (x109 : Int32) =>
nm (x105 - x109) fun (x110 : Int32) =>
bd (f_X5_greater fu  x102 x110) fun (o111 : Int32) =>
ix v66 60 <|
nm (M_ra_ u96 (upd (M_ra u96) v66.toNatClampNeg o111)) fun (u113 : TM) =>
nm (v95 + (1 : Int32)) fun (x114 : Int32) =>
rec x114 u113
)

def lf_X5_laysRail_29 (fu : Nat) (v66 : Int32) : Nat → Int32 → TM → Option (TM) := lq_2 (lb_X5_laysRail_29 fu v66)
def lb_X5_laysRail_2 (fu : Nat)  (rec : Int32 → TM → Option (TM)) (v66 : Int32) (u67 : TM) : Option (TM) :=
nm (M_ss u67 0) fun (x70 : Int32) =>
if x70 ≤ v66 then (
some (u67)
)
else (
nm ((41 : Int32) + v66) fun (x72 : Int32) =>
ix x72 281 <|
nm ((M_ss u67) x72.toNatClampNeg) fun (x74 : Int32) =>
ix v66 60 <|
nm (M_ra_ u67 (upd (M_ra u67) v66.toNatClampNeg x74)) fun (u76 : TM) =>
bd (lf_X5_laysRail_29 fu v66 fu ((0 : Int32)) u76) fun (z98 : TM) =>
nm (v66 + (1 : Int32)) fun (x115 : Int32) =>
rec x115 z98
)

def lf_X5_laysRail_2 (fu : Nat)  : Nat → Int32 → TM → Option (TM) := lq_2 (lb_X5_laysRail_2 fu )
def f_X5_laysRail (fu : Nat) (u_mo : TM)  : Option (TM) :=
bd (lf_X5_laysRail_2 fu  fu ((0 : Int32)) u_mo) fun (z69 : TM) =>
some (z69)

abbrev rm_X5_laysRail : Room := { frames := 1, cells := 0, slots := 0, locals := 21 }
set_option maxHeartbeats 4000000 in
set_option maxRecDepth 100000 in
theorem c_X5_laysRail (l : Launch) (D : va_G) (cT : Nat → ClassId) (g : Nat → Nat) (b : Nat) (fu : Nat) (u_mo : TM)  (o : TM) (hf : f_X5_laysRail fu u_mo  = some o) (sz : Nat) : Met l yX5_laysRail wsX5_laysRail rm_X5_laysRail (va_Pc [.ref (g b)] (PRE D cT sz (List.flatten [wM cT g b u_mo]))) (QV D (List.flatten [wM cT g b o]) (va_A (List.flatten [wM cT g b u_mo]) sz)) 0 0 (va_A (List.flatten [wM cT g b u_mo]) sz) := by
  refine Met.ofW (cc := cX5_laysRail) (maxL := 3) (ret := none) (by decide) rfl ?_
  intro p e s m args below meth c s₁ B0 hml hv
  obtain ⟨hav, hsz, hP, hK, hD, hN, hZ⟩ := hv
  have hx := B0.exec
  have hb := B0.bytes
  have hr := B0.returns
  have hts := atoms_spec (ws := wsX5_laysRail) B0.pre
  have hown : s.vm.findClass RX5 = some m.cls := findClass_of_methodNamed B0.named
  have hlocks := B0.notSynchronized
  subst hsz
  have hD := hD.self (sz := s.heap.size)
  have hA : ∀ q : Nat, s.heap.size ≤ q → va_A (List.flatten [wM cT g b u_mo]) s.heap.size q := fun q h => Or.inr h
  generalize va_A (List.flatten [wM cT g b u_mo]) s.heap.size = A at hD hZ hA ⊢
  have hS : va_S A s.heap s.heap [] := va_S.rf
  have hl := lv_entry ([.ref (g b)]) (n := 3) (Nat.le_of_ble_eq_true rfl)
  rw [hav]
  rw [lg_entry_eq]
  generalize (lg_sl ([.ref (g b)]) ++ List.replicate (3 - (lg_sl ([.ref (g b)])).length) Slot.unset).toArray = ls at hl ⊢
  have hl : lv_has ls 3 [(0, .ref (g b))] := hl
  rw [← hav]
  generalize hQ : MQ below _ _ _ _ _ _ = Q
  show W p l e rm_X5_laysRail s m args below meth c s.heap [] 0 0 Q (F0 m 0 ls [])
  unfold f_X5_laysRail at hf
  refine lv_iconst (v := 0) hx hb dX5_laysRail_0 (by decide) ?_
  refine lv_istore_n (lv' := [(1, .int ((0 : Int32))), (0, .ref (g b))]) hx hb dX5_laysRail_1 rfl hl (by decide) rfl (fun ls hl => ?_)
  obtain ⟨z69, hz69, hf⟩ := bd_i hf
  have hL2 : ∀ (n : Nat) (v66 : Int32) (u67 : TM) (z68 : TM), lf_X5_laysRail_2 fu  n v66 u67 = some z68 → ∀ (H : Heap) (locs : List Loc) (ls : Array Slot), va_P D vwCl (List.flatten [wM cT g b u67]) H → va_S A s.heap H locs → lv_has ls 3 [(0, .ref (g b)), (1, .int v66)] → (∀ (H : Heap) (locs : List Loc) (ls : Array Slot), va_P D vwCl (List.flatten [wM cT g b z68]) H → va_S A s.heap H locs → lv_has ls 3 [] → W p l e rm_X5_laysRail s m args below meth c H locs 0 0 Q (F0 m 89 ls [])) → W p l e rm_X5_laysRail s m args below meth c H locs 0 0 Q (F0 m 2 ls []) := by
    refine lq_2_ind (F := lb_X5_laysRail_2 fu ) (fun rec ih v66 u67 z68 hf H locs ls hP hS hl kx => ?_)
    unfold lb_X5_laysRail_2 at hf
    refine lv_iload_n hx hb dX5_laysRail_2 rfl (lv_at hl 1 rfl) ?_
    refine lv_aload_n hx hb dX5_laysRail_3 rfl (lv_at hl 0 rfl) ?_
    refine va_get (ci := 5) (v := .ref (g (b + 1))) (C := RX5) (T := TX5) (N := 12) hx hb hts iw_X5_laysRail_X5 hown hK hP 0 rfl rfl 0 (by decide) (hts (.fieldLink RX5 7 "BallastTrackModel" "s" "[I") (List.mem_of_getElem? (i := 1) rfl)) (fun _ h9 => h9) rfl dX5_laysRail_4 ?_
    refine lv_iconst (v := 0) hx hb dX5_laysRail_7 (by decide) ?_
    refine va_iald hx hb hK hP 1 0 rfl rfl (by unfold vp_in; decide) dX5_laysRail_8 ?_
    refine lv_topi (fun x70 ex70 => ?_)
    replace hf := nm_i hf ex70
    refine lv_icmp_ge (tgt := 89) hx hb dX5_laysRail_9 (by decide) (fun c71 => ?_) (fun c71 => ?_)
    · replace hf := it_t hf c71
      obtain rfl := Option.some.inj hf
      exact kx _ _ _ hP hS (lv_sub hl [] rfl)
    · replace hf := it_f hf c71
      refine lv_aload_n hx hb dX5_laysRail_12 rfl (lv_at hl 0 rfl) ?_
      refine va_get (ci := 5) (v := .ref (g (b + 6))) (C := RX5) (T := TX5) (N := 12) hx hb hts iw_X5_laysRail_X5 hown hK hP 0 rfl rfl 8 (by decide) (hts (.fieldLink RX5 26 "BallastTrackModel" "rail" "[I") (List.mem_of_getElem? (i := 2) rfl)) (fun _ h9 => h9) rfl dX5_laysRail_13 ?_
      refine lv_iload_n hx hb dX5_laysRail_16 rfl (lv_at hl 1 rfl) ?_
      refine lv_aload_n hx hb dX5_laysRail_17 rfl (lv_at hl 0 rfl) ?_
      refine va_get (ci := 5) (v := .ref (g (b + 1))) (C := RX5) (T := TX5) (N := 12) hx hb hts iw_X5_laysRail_X5 hown hK hP 0 rfl rfl 0 (by decide) (hts (.fieldLink RX5 7 "BallastTrackModel" "s" "[I") (List.mem_of_getElem? (i := 1) rfl)) (fun _ h9 => h9) rfl dX5_laysRail_18 ?_
      refine lv_bipush (v := 41) hx hb dX5_laysRail_21 (by decide) ?_
      refine lv_iload_n hx hb dX5_laysRail_23 rfl (lv_at hl 1 rfl) ?_
      refine lv_iadd hx hb dX5_laysRail_24 ?_
      refine lv_topi (fun x72 ex72 => ?_)
      replace hf := nm_i hf ex72
      obtain ⟨hi73, hf⟩ := ix_i hf
      refine va_iald hx hb hK hP 1 0 rfl rfl hi73 dX5_laysRail_25 ?_
      refine lv_topi (fun x74 ex74 => ?_)
      replace hf := nm_i hf ex74
      obtain ⟨hi75, hf⟩ := ix_i hf
      refine va_iast hx hb hK hP (va_D_adr hD rfl) hS 6 0 rfl rfl hi75 dX5_laysRail_26 (fun H locs hP _ hS => ?_)
      obtain ⟨u76, eu76⟩ : ∃ z : TM, z = M_ra_ u67 (upd (M_ra u67) v66.toNatClampNeg x74) := ⟨_, rfl⟩
      replace hf := nm_i hf eu76
      have hP : va_P D vwCl (List.flatten [wM cT g b u76]) H := by rw [eu76]; exact hP
      refine lv_iconst (v := 0) hx hb dX5_laysRail_27 (by decide) ?_
      refine lv_istore_n (lv' := [(2, .int ((0 : Int32))), (0, .ref (g b)), (1, .int v66)]) hx hb dX5_laysRail_28 rfl hl (by decide) rfl (fun ls hl => ?_)
      obtain ⟨z98, hz98, hf⟩ := bd_i hf
      have hL29 : ∀ (n : Nat) (v95 : Int32) (u96 : TM) (z97 : TM), lf_X5_laysRail_29 fu v66 n v95 u96 = some z97 → ∀ (H : Heap) (locs : List Loc) (ls : Array Slot), va_P D vwCl (List.flatten [wM cT g b u96]) H → va_S A s.heap H locs → lv_has ls 3 [(0, .ref (g b)), (1, .int v66), (2, .int v95)] → (∀ (H : Heap) (locs : List Loc) (ls : Array Slot), va_P D vwCl (List.flatten [wM cT g b z97]) H → va_S A s.heap H locs → lv_has ls 3 [(0, .ref (g b)), (1, .int v66)] → W p l e rm_X5_laysRail s m args below meth c H locs 0 0 Q (F0 m 83 ls [])) → W p l e rm_X5_laysRail s m args below meth c H locs 0 0 Q (F0 m 29 ls []) := by
        refine lq_2_ind (F := lb_X5_laysRail_29 fu v66) (fun rec ih v95 u96 z97 hf H locs ls hP hS hl kx => ?_)
        unfold lb_X5_laysRail_29 at hf
        refine lv_iload_n hx hb dX5_laysRail_29 rfl (lv_at hl 2 rfl) ?_
        refine lv_aload_n hx hb dX5_laysRail_30 rfl (lv_at hl 0 rfl) ?_
        refine va_get (ci := 5) (v := .ref (g (b + 1))) (C := RX5) (T := TX5) (N := 12) hx hb hts iw_X5_laysRail_X5 hown hK hP 0 rfl rfl 0 (by decide) (hts (.fieldLink RX5 7 "BallastTrackModel" "s" "[I") (List.mem_of_getElem? (i := 1) rfl)) (fun _ h9 => h9) rfl dX5_laysRail_31 ?_
        refine lv_iconst (v := 0) hx hb dX5_laysRail_34 (by decide) ?_
        refine va_iald hx hb hK hP 1 0 rfl rfl (by unfold vp_in; decide) dX5_laysRail_35 ?_
        refine lv_topi (fun x99 ex99 => ?_)
        replace hf := nm_i hf ex99
        refine lv_icmp_ge (tgt := 83) hx hb dX5_laysRail_36 (by decide) (fun c100 => ?_) (fun c100 => ?_)
        · replace hf := it_t hf c100
          obtain rfl := Option.some.inj hf
          exact kx _ _ _ hP hS (lv_sub hl [0, 1] rfl)
        · replace hf := it_f hf c100
          refine lv_aload_n hx hb dX5_laysRail_39 rfl (lv_at hl 0 rfl) ?_
          refine va_get (ci := 5) (v := .ref (g (b + 6))) (C := RX5) (T := TX5) (N := 12) hx hb hts iw_X5_laysRail_X5 hown hK hP 0 rfl rfl 8 (by decide) (hts (.fieldLink RX5 26 "BallastTrackModel" "rail" "[I") (List.mem_of_getElem? (i := 2) rfl)) (fun _ h9 => h9) rfl dX5_laysRail_40 ?_
          refine lv_iload_n hx hb dX5_laysRail_43 rfl (lv_at hl 1 rfl) ?_
          refine lv_aload_n hx hb dX5_laysRail_44 rfl (lv_at hl 0 rfl) ?_
          refine va_get (ci := 5) (v := .ref (g (b + 6))) (C := RX5) (T := TX5) (N := 12) hx hb hts iw_X5_laysRail_X5 hown hK hP 0 rfl rfl 8 (by decide) (hts (.fieldLink RX5 26 "BallastTrackModel" "rail" "[I") (List.mem_of_getElem? (i := 2) rfl)) (fun _ h9 => h9) rfl dX5_laysRail_45 ?_
          refine lv_iload_n hx hb dX5_laysRail_48 rfl (lv_at hl 1 rfl) ?_
          obtain ⟨hi101, hf⟩ := ix_i hf
          refine va_iald hx hb hK hP 6 0 rfl rfl hi101 dX5_laysRail_49 ?_
          refine lv_topi (fun x102 ex102 => ?_)
          replace hf := nm_i hf ex102
          refine lv_aload_n hx hb dX5_laysRail_50 rfl (lv_at hl 0 rfl) ?_
          refine va_get (ci := 5) (v := .ref (g (b + 1))) (C := RX5) (T := TX5) (N := 12) hx hb hts iw_X5_laysRail_X5 hown hK hP 0 rfl rfl 0 (by decide) (hts (.fieldLink RX5 7 "BallastTrackModel" "s" "[I") (List.mem_of_getElem? (i := 1) rfl)) (fun _ h9 => h9) rfl dX5_laysRail_51 ?_
          refine lv_bipush (v := 41) hx hb dX5_laysRail_54 (by decide) ?_
          refine lv_iload_n hx hb dX5_laysRail_56 rfl (lv_at hl 2 rfl) ?_
          refine lv_iadd hx hb dX5_laysRail_57 ?_
          refine lv_topi (fun x103 ex103 => ?_)
          replace hf := nm_i hf ex103
          obtain ⟨hi104, hf⟩ := ix_i hf
          refine va_iald hx hb hK hP 1 0 rfl rfl hi104 dX5_laysRail_58 ?_
          refine lv_topi (fun x105 ex105 => ?_)
          replace hf := nm_i hf ex105
          refine lv_aload_n hx hb dX5_laysRail_59 rfl (lv_at hl 0 rfl) ?_
          refine va_get (ci := 5) (v := .ref (g (b + 1))) (C := RX5) (T := TX5) (N := 12) hx hb hts iw_X5_laysRail_X5 hown hK hP 0 rfl rfl 0 (by decide) (hts (.fieldLink RX5 7 "BallastTrackModel" "s" "[I") (List.mem_of_getElem? (i := 1) rfl)) (fun _ h9 => h9) rfl dX5_laysRail_60 ?_
          refine lv_iconst (v := 1) hx hb dX5_laysRail_63 (by decide) ?_
          refine va_iald hx hb hK hP 1 0 rfl rfl (by unfold vp_in; decide) dX5_laysRail_64 ?_
          refine lv_topi (fun x106 ex106 => ?_)
          replace hf := nm_i hf ex106
          refine lv_iload_n hx hb dX5_laysRail_65 rfl (lv_at hl 1 rfl) ?_
          refine lv_iload_n hx hb dX5_laysRail_66 rfl (lv_at hl 2 rfl) ?_
          refine lv_isub hx hb dX5_laysRail_67 ?_
          refine lv_topi (fun x107 ex107 => ?_)
          replace hf := nm_i hf ex107
          obtain ⟨o108, ho108, hf⟩ := bd_i hf
          refine cl_i [] [0] [wM cT g b u96] hP (va_D_adr hD rfl) hA hS (va_runS (As := [.int x107]) (rest := [.int x106, .int x105, .int x102, .int v66, .ref (g (b + 6))]) ⟨hx, hb, hml, hown, hts⟩ (c_X5_size l D cT g  fu  x107 o108 ho108 _) (va_cwS 1 hts gX5_laysRail_X5_size rfl rfl rfl (by decide +kernel) ⟨Nat.le_of_ble_eq_true rfl, Nat.le_of_ble_eq_true rfl⟩) ⟨PRE_blind, PRE_ok [] (by decide) hP (va_D_adr hD rfl) hA hS hK hN hZ⟩ rfl rfl hl.1 rfl (lv_room (Nat.le_of_ble_eq_true rfl)) dX5_laysRail_68 ⟨Nat.le_of_ble_eq_true rfl, Nat.le_of_ble_eq_true rfl⟩) rfl 1 rfl (by decide) (by decide) (fun H locs hP hS => ?_)
          refine lv_imul hx hb dX5_laysRail_71 ?_
          refine lv_topi (fun x109 ex109 => ?_)
          replace hf := nm_i hf ex109
          refine lv_isub hx hb dX5_laysRail_72 ?_
          refine lv_topi (fun x110 ex110 => ?_)
          replace hf := nm_i hf ex110
          obtain ⟨o111, ho111, hf⟩ := bd_i hf
          refine cl_i [] [0] [wM cT g b u96] hP (va_D_adr hD rfl) hA hS (va_runS (As := [.int x102, .int x110]) (rest := [.int v66, .ref (g (b + 6))]) ⟨hx, hb, hml, hown, hts⟩ (c_X5_greater l D cT g  fu  x102 x110 o111 ho111 _) (va_cwS 2 hts gX5_laysRail_X5_greater rfl rfl rfl (by decide +kernel) ⟨Nat.le_of_ble_eq_true rfl, Nat.le_of_ble_eq_true rfl⟩) ⟨PRE_blind, PRE_ok [] (by decide) hP (va_D_adr hD rfl) hA hS hK hN hZ⟩ rfl rfl hl.1 rfl (lv_room (Nat.le_of_ble_eq_true rfl)) dX5_laysRail_73 ⟨Nat.le_of_ble_eq_true rfl, Nat.le_of_ble_eq_true rfl⟩) rfl 1 rfl (by decide) (by decide) (fun H locs hP hS => ?_)
          obtain ⟨hi112, hf⟩ := ix_i hf
          refine va_iast hx hb hK hP (va_D_adr hD rfl) hS 6 0 rfl rfl hi112 dX5_laysRail_76 (fun H locs hP _ hS => ?_)
          obtain ⟨u113, eu113⟩ : ∃ z : TM, z = M_ra_ u96 (upd (M_ra u96) v66.toNatClampNeg o111) := ⟨_, rfl⟩
          replace hf := nm_i hf eu113
          have hP : va_P D vwCl (List.flatten [wM cT g b u113]) H := by rw [eu113]; exact hP
          obtain ⟨x114, ex114⟩ : ∃ z : Int32, z = v95 + (1 : Int32) := ⟨_, rfl⟩
          replace hf := nm_i hf ex114
          refine lv_iinc (v := x114) (lv' := [(2, .int x114), (0, .ref (g b)), (1, .int v66)]) hx hb dX5_laysRail_77 hl (k := 2) rfl (by rw [ex114]; rfl) (by decide) rfl (fun ls hl => ?_)
          refine lv_goto (tgt := 29) hx hb dX5_laysRail_80 (by decide) ?_
          exact ih _ _ _ hf _ _ _ hP hS (lv_sub hl [1, 2, 0] rfl) kx
      refine hL29 fu _ _ _ hz98 _ _ _ hP hS (lv_sub hl [1, 2, 0] rfl) (fun H locs ls hP hS hl => ?_)
      obtain ⟨x115, ex115⟩ : ∃ z : Int32, z = v66 + (1 : Int32) := ⟨_, rfl⟩
      replace hf := nm_i hf ex115
      refine lv_iinc (v := x115) (lv' := [(1, .int x115), (0, .ref (g b))]) hx hb dX5_laysRail_83 hl (k := 1) rfl (by rw [ex115]; rfl) (by decide) rfl (fun ls hl => ?_)
      refine lv_goto (tgt := 2) hx hb dX5_laysRail_86 (by decide) ?_
      exact ih _ _ _ hf _ _ _ hP hS (lv_sub hl [1, 0] rfl) kx
  refine hL2 fu _ _ _ hz69 _ _ _ hP hS (lv_sub hl [1, 0] rfl) (fun H locs ls hP hS hl => ?_)
  obtain rfl := Option.some.inj hf
  subst hQ
  exact en_v hx hb hr hP hS hlocks dX5_laysRail_89
theorem iw_X5_voidAt_X5 : ∀ w ∈ u_ws RX5 TX5 12, w ∈ wsX5_voidAt := by decide +kernel
def f_X5_voidAt (fu : Nat) (u_mo : TM) (p0 : Int32) : Option (Int32) :=
ix p0 60 <|
nm ((M_ra u_mo) p0.toNatClampNeg) fun (x8 : Int32) =>
nm ((41 : Int32) + p0) fun (x9 : Int32) =>
ix x9 281 <|
nm ((M_ss u_mo) x9.toNatClampNeg) fun (x11 : Int32) =>
nm (x8 - x11) fun (x12 : Int32) =>
some (x12)

abbrev rm_X5_voidAt : Room := { frames := 0, cells := 0, slots := 0, locals := 0 }
set_option maxHeartbeats 4000000 in
set_option maxRecDepth 100000 in
theorem c_X5_voidAt (l : Launch) (D : va_G) (cT : Nat → ClassId) (g : Nat → Nat) (b : Nat) (fu : Nat) (u_mo : TM) (p0 : Int32) (o : Int32) (hf : f_X5_voidAt fu u_mo p0 = some o) (sz : Nat) : Met l yX5_voidAt wsX5_voidAt rm_X5_voidAt (va_Pc [.ref (g b), .int p0] (PRE D cT sz (List.flatten [wM cT g b u_mo]))) (QI D o (List.flatten [wM cT g b u_mo]) (va_A (List.flatten [wM cT g b u_mo]) sz)) 0 0 (va_A (List.flatten [wM cT g b u_mo]) sz) := by
  refine Met.ofW (cc := cX5_voidAt) (maxL := 2) (ret := (some .int)) (by decide) rfl ?_
  intro p e s m args below meth c s₁ B0 hml hv
  obtain ⟨hav, hsz, hP, hK, hD, hN, hZ⟩ := hv
  have hx := B0.exec
  have hb := B0.bytes
  have hr := B0.returns
  have hts := atoms_spec (ws := wsX5_voidAt) B0.pre
  have hown : s.vm.findClass RX5 = some m.cls := findClass_of_methodNamed B0.named
  have hlocks := B0.notSynchronized
  subst hsz
  have hD := hD.self (sz := s.heap.size)
  have hA : ∀ q : Nat, s.heap.size ≤ q → va_A (List.flatten [wM cT g b u_mo]) s.heap.size q := fun q h => Or.inr h
  generalize va_A (List.flatten [wM cT g b u_mo]) s.heap.size = A at hD hZ hA ⊢
  have hS : va_S A s.heap s.heap [] := va_S.rf
  have hl := lv_entry ([.ref (g b), .int p0]) (n := 2) (Nat.le_of_ble_eq_true rfl)
  rw [hav]
  rw [lg_entry_eq]
  generalize (lg_sl ([.ref (g b), .int p0]) ++ List.replicate (2 - (lg_sl ([.ref (g b), .int p0])).length) Slot.unset).toArray = ls at hl ⊢
  have hl : lv_has ls 2 [(0, .ref (g b)), (1, .int p0)] := hl
  rw [← hav]
  generalize hQ : MQ below _ _ _ _ _ _ = Q
  show W p l e rm_X5_voidAt s m args below meth c s.heap [] 0 0 Q (F0 m 0 ls [])
  unfold f_X5_voidAt at hf
  refine lv_aload_n hx hb dX5_voidAt_0 rfl (lv_at hl 0 rfl) ?_
  refine va_get (ci := 5) (v := .ref (g (b + 6))) (C := RX5) (T := TX5) (N := 12) hx hb hts iw_X5_voidAt_X5 hown hK hP 0 rfl rfl 8 (by decide) (hts (.fieldLink RX5 26 "BallastTrackModel" "rail" "[I") (List.mem_of_getElem? (i := 1) rfl)) (fun _ h9 => h9) rfl dX5_voidAt_1 ?_
  refine lv_iload_n hx hb dX5_voidAt_4 rfl (lv_at hl 1 rfl) ?_
  obtain ⟨hi7, hf⟩ := ix_i hf
  refine va_iald hx hb hK hP 6 0 rfl rfl hi7 dX5_voidAt_5 ?_
  refine lv_topi (fun x8 ex8 => ?_)
  replace hf := nm_i hf ex8
  refine lv_aload_n hx hb dX5_voidAt_6 rfl (lv_at hl 0 rfl) ?_
  refine va_get (ci := 5) (v := .ref (g (b + 1))) (C := RX5) (T := TX5) (N := 12) hx hb hts iw_X5_voidAt_X5 hown hK hP 0 rfl rfl 0 (by decide) (hts (.fieldLink RX5 7 "BallastTrackModel" "s" "[I") (List.mem_of_getElem? (i := 2) rfl)) (fun _ h9 => h9) rfl dX5_voidAt_7 ?_
  refine lv_bipush (v := 41) hx hb dX5_voidAt_10 (by decide) ?_
  refine lv_iload_n hx hb dX5_voidAt_12 rfl (lv_at hl 1 rfl) ?_
  refine lv_iadd hx hb dX5_voidAt_13 ?_
  refine lv_topi (fun x9 ex9 => ?_)
  replace hf := nm_i hf ex9
  obtain ⟨hi10, hf⟩ := ix_i hf
  refine va_iald hx hb hK hP 1 0 rfl rfl hi10 dX5_voidAt_14 ?_
  refine lv_topi (fun x11 ex11 => ?_)
  replace hf := nm_i hf ex11
  refine lv_isub hx hb dX5_voidAt_15 ?_
  refine lv_topi (fun x12 ex12 => ?_)
  replace hf := nm_i hf ex12
  obtain rfl := Option.some.inj hf
  subst hQ
  exact en_i hx hb hr hP hS hlocks dX5_voidAt_16
theorem iw_X5_hangs_X5 : ∀ w ∈ u_ws RX5 TX5 12, w ∈ wsX5_hangs := by decide +kernel
def f_X5_hangs (fu : Nat) (u_mo : TM) (p0 : Int32) : Option (Bool) :=
bd (f_X5_voidAt fu u_mo p0) fun (o4 : Int32) =>
nm (M_ss u_mo 2) fun (x5 : Int32) =>
if o4 ≤ x5 then (
some (false)
)
else (
some (true)
)

abbrev rm_X5_hangs : Room := { frames := 1, cells := 0, slots := 0, locals := 21 }
set_option maxHeartbeats 4000000 in
set_option maxRecDepth 100000 in
theorem c_X5_hangs (l : Launch) (D : va_G) (cT : Nat → ClassId) (g : Nat → Nat) (b : Nat) (fu : Nat) (u_mo : TM) (p0 : Int32) (o : Bool) (hf : f_X5_hangs fu u_mo p0 = some o) (sz : Nat) : Met l yX5_hangs wsX5_hangs rm_X5_hangs (va_Pc [.ref (g b), .int p0] (PRE D cT sz (List.flatten [wM cT g b u_mo]))) (QI D (bI o) (List.flatten [wM cT g b u_mo]) (va_A (List.flatten [wM cT g b u_mo]) sz)) 0 0 (va_A (List.flatten [wM cT g b u_mo]) sz) := by
  refine Met.ofW (cc := cX5_hangs) (maxL := 2) (ret := (some .boolean)) (by decide) rfl ?_
  intro p e s m args below meth c s₁ B0 hml hv
  obtain ⟨hav, hsz, hP, hK, hD, hN, hZ⟩ := hv
  have hx := B0.exec
  have hb := B0.bytes
  have hr := B0.returns
  have hts := atoms_spec (ws := wsX5_hangs) B0.pre
  have hown : s.vm.findClass RX5 = some m.cls := findClass_of_methodNamed B0.named
  have hlocks := B0.notSynchronized
  subst hsz
  have hD := hD.self (sz := s.heap.size)
  have hA : ∀ q : Nat, s.heap.size ≤ q → va_A (List.flatten [wM cT g b u_mo]) s.heap.size q := fun q h => Or.inr h
  generalize va_A (List.flatten [wM cT g b u_mo]) s.heap.size = A at hD hZ hA ⊢
  have hS : va_S A s.heap s.heap [] := va_S.rf
  have hl := lv_entry ([.ref (g b), .int p0]) (n := 2) (Nat.le_of_ble_eq_true rfl)
  rw [hav]
  rw [lg_entry_eq]
  generalize (lg_sl ([.ref (g b), .int p0]) ++ List.replicate (2 - (lg_sl ([.ref (g b), .int p0])).length) Slot.unset).toArray = ls at hl ⊢
  have hl : lv_has ls 2 [(0, .ref (g b)), (1, .int p0)] := hl
  rw [← hav]
  generalize hQ : MQ below _ _ _ _ _ _ = Q
  show W p l e rm_X5_hangs s m args below meth c s.heap [] 0 0 Q (F0 m 0 ls [])
  unfold f_X5_hangs at hf
  refine lv_aload_n hx hb dX5_hangs_0 rfl (lv_at hl 0 rfl) ?_
  refine lv_iload_n hx hb dX5_hangs_1 rfl (lv_at hl 1 rfl) ?_
  obtain ⟨o4, ho4, hf⟩ := bd_i hf
  refine cl_i [0] [] [wM cT g b u_mo] hP (va_D_adr hD rfl) hA hS (va_runV (As := [.int p0]) (rest := []) ⟨hx, hb, hml, hown, hts⟩ (c_X5_voidAt l D cT g b fu u_mo p0 o4 ho4 _) (cwV 1 hts gX5_hangs_X5_voidAt rfl rfl rfl (by decide +kernel) ⟨Nat.le_of_ble_eq_true rfl, Nat.le_of_ble_eq_true rfl⟩) ⟨PRE_blind, va_recv hK hP (ci := 5) (q0 := 0) rfl rfl, PRE_ok [0] (by decide) hP (va_D_adr hD rfl) hA hS hK hN hZ⟩ rfl rfl hl.1 rfl (lv_room (Nat.le_of_ble_eq_true rfl)) dX5_hangs_2 ⟨Nat.le_of_ble_eq_true rfl, Nat.le_of_ble_eq_true rfl⟩) rfl 1 rfl (by decide) (by decide) (fun H locs hP hS => ?_)
  refine lv_aload_n hx hb dX5_hangs_5 rfl (lv_at hl 0 rfl) ?_
  refine va_get (ci := 5) (v := .ref (g (b + 1))) (C := RX5) (T := TX5) (N := 12) hx hb hts iw_X5_hangs_X5 hown hK hP 0 rfl rfl 0 (by decide) (hts (.fieldLink RX5 7 "BallastTrackModel" "s" "[I") (List.mem_of_getElem? (i := 1) rfl)) (fun _ h9 => h9) rfl dX5_hangs_6 ?_
  refine lv_iconst (v := 2) hx hb dX5_hangs_9 (by decide) ?_
  refine va_iald hx hb hK hP 1 0 rfl rfl (by unfold vp_in; decide) dX5_hangs_10 ?_
  refine lv_topi (fun x5 ex5 => ?_)
  replace hf := nm_i hf ex5
  refine lv_icmp_le (tgt := 18) hx hb dX5_hangs_11 (by decide) (fun c6 => ?_) (fun c6 => ?_)
  · replace hf := it_t hf c6
    refine lv_iconst (v := 0) hx hb dX5_hangs_18 (by decide) ?_
    obtain rfl := Option.some.inj hf
    subst hQ
    exact en_z (v := false) hx hb hr hP hS hlocks dX5_hangs_19
  · replace hf := it_f hf c6
    refine lv_iconst (v := 1) hx hb dX5_hangs_14 (by decide) ?_
    refine lv_goto (tgt := 19) hx hb dX5_hangs_15 (by decide) ?_
    obtain rfl := Option.some.inj hf
    subst hQ
    exact en_z (v := true) hx hb hr hP hS hlocks dX5_hangs_19
theorem iw_X5_defect_X5 : ∀ w ∈ u_ws RX5 TX5 12, w ∈ wsX5_defect := by decide +kernel
def f_X5_defect (fu : Nat) (u_mo : TM) (p0 : Int32) : Option (Int32) :=
nm (M_ss u_mo 3) fun (x17 : Int32) =>
if p0 < x17 then (
some ((0 : Int32))
)
else (
nm (M_ss u_mo 0) fun (x19 : Int32) =>
nm (x19 - x17) fun (x20 : Int32) =>
if p0 < x20 then (
ix p0 60 <|
nm ((M_ra u_mo) p0.toNatClampNeg) fun (x23 : Int32) =>
nm ((2 : Int32) * x23) fun (x24 : Int32) =>
nm (p0 - x17) fun (x25 : Int32) =>
ix x25 60 <|
nm ((M_ra u_mo) x25.toNatClampNeg) fun (x27 : Int32) =>
nm (x24 - x27) fun (x28 : Int32) =>
nm (p0 + x17) fun (x29 : Int32) =>
ix x29 60 <|
nm ((M_ra u_mo) x29.toNatClampNeg) fun (x31 : Int32) =>
nm (x28 - x31) fun (x32 : Int32) =>
some (x32)
)
else (
some ((0 : Int32))
)
)

abbrev rm_X5_defect : Room := { frames := 0, cells := 0, slots := 0, locals := 0 }
set_option maxHeartbeats 4000000 in
set_option maxRecDepth 100000 in
theorem c_X5_defect (l : Launch) (D : va_G) (cT : Nat → ClassId) (g : Nat → Nat) (b : Nat) (fu : Nat) (u_mo : TM) (p0 : Int32) (o : Int32) (hf : f_X5_defect fu u_mo p0 = some o) (sz : Nat) : Met l yX5_defect wsX5_defect rm_X5_defect (va_Pc [.ref (g b), .int p0] (PRE D cT sz (List.flatten [wM cT g b u_mo]))) (QI D o (List.flatten [wM cT g b u_mo]) (va_A (List.flatten [wM cT g b u_mo]) sz)) 0 0 (va_A (List.flatten [wM cT g b u_mo]) sz) := by
  refine Met.ofW (cc := cX5_defect) (maxL := 3) (ret := (some .int)) (by decide) rfl ?_
  intro p e s m args below meth c s₁ B0 hml hv
  obtain ⟨hav, hsz, hP, hK, hD, hN, hZ⟩ := hv
  have hx := B0.exec
  have hb := B0.bytes
  have hr := B0.returns
  have hts := atoms_spec (ws := wsX5_defect) B0.pre
  have hown : s.vm.findClass RX5 = some m.cls := findClass_of_methodNamed B0.named
  have hlocks := B0.notSynchronized
  subst hsz
  have hD := hD.self (sz := s.heap.size)
  have hA : ∀ q : Nat, s.heap.size ≤ q → va_A (List.flatten [wM cT g b u_mo]) s.heap.size q := fun q h => Or.inr h
  generalize va_A (List.flatten [wM cT g b u_mo]) s.heap.size = A at hD hZ hA ⊢
  have hS : va_S A s.heap s.heap [] := va_S.rf
  have hl := lv_entry ([.ref (g b), .int p0]) (n := 3) (Nat.le_of_ble_eq_true rfl)
  rw [hav]
  rw [lg_entry_eq]
  generalize (lg_sl ([.ref (g b), .int p0]) ++ List.replicate (3 - (lg_sl ([.ref (g b), .int p0])).length) Slot.unset).toArray = ls at hl ⊢
  have hl : lv_has ls 3 [(0, .ref (g b)), (1, .int p0)] := hl
  rw [← hav]
  generalize hQ : MQ below _ _ _ _ _ _ = Q
  show W p l e rm_X5_defect s m args below meth c s.heap [] 0 0 Q (F0 m 0 ls [])
  unfold f_X5_defect at hf
  refine lv_aload_n hx hb dX5_defect_0 rfl (lv_at hl 0 rfl) ?_
  refine va_get (ci := 5) (v := .ref (g (b + 1))) (C := RX5) (T := TX5) (N := 12) hx hb hts iw_X5_defect_X5 hown hK hP 0 rfl rfl 0 (by decide) (hts (.fieldLink RX5 7 "BallastTrackModel" "s" "[I") (List.mem_of_getElem? (i := 1) rfl)) (fun _ h9 => h9) rfl dX5_defect_1 ?_
  refine lv_iconst (v := 3) hx hb dX5_defect_4 (by decide) ?_
  refine va_iald hx hb hK hP 1 0 rfl rfl (by unfold vp_in; decide) dX5_defect_5 ?_
  refine lv_topi (fun x17 ex17 => ?_)
  replace hf := nm_i hf ex17
  refine lv_istore_n (lv' := [(2, .int x17), (0, .ref (g b)), (1, .int p0)]) hx hb dX5_defect_6 rfl hl (by decide) rfl (fun ls hl => ?_)
  refine lv_iload_n hx hb dX5_defect_7 rfl (lv_at hl 2 rfl) ?_
  refine lv_iload_n hx hb dX5_defect_8 rfl (lv_at hl 0 rfl) ?_
  refine lv_icmp_lt (tgt := 24) hx hb dX5_defect_9 (by decide) (fun c18 => ?_) (fun c18 => ?_)
  · replace hf := it_t hf c18
    refine lv_iconst (v := 0) hx hb dX5_defect_24 (by decide) ?_
    obtain rfl := Option.some.inj hf
    subst hQ
    exact en_i hx hb hr hP hS hlocks dX5_defect_25
  · replace hf := it_f hf c18
    refine lv_iload_n hx hb dX5_defect_12 rfl (lv_at hl 2 rfl) ?_
    refine lv_aload_n hx hb dX5_defect_13 rfl (lv_at hl 1 rfl) ?_
    refine va_get (ci := 5) (v := .ref (g (b + 1))) (C := RX5) (T := TX5) (N := 12) hx hb hts iw_X5_defect_X5 hown hK hP 0 rfl rfl 0 (by decide) (hts (.fieldLink RX5 7 "BallastTrackModel" "s" "[I") (List.mem_of_getElem? (i := 1) rfl)) (fun _ h9 => h9) rfl dX5_defect_14 ?_
    refine lv_iconst (v := 0) hx hb dX5_defect_17 (by decide) ?_
    refine va_iald hx hb hK hP 1 0 rfl rfl (by unfold vp_in; decide) dX5_defect_18 ?_
    refine lv_topi (fun x19 ex19 => ?_)
    replace hf := nm_i hf ex19
    refine lv_iload_n hx hb dX5_defect_19 rfl (lv_at hl 0 rfl) ?_
    refine lv_isub hx hb dX5_defect_20 ?_
    refine lv_topi (fun x20 ex20 => ?_)
    replace hf := nm_i hf ex20
    refine lv_icmp_lt (tgt := 26) hx hb dX5_defect_21 (by decide) (fun c21 => ?_) (fun c21 => ?_)
    · replace hf := it_t hf c21
      refine lv_iconst (v := 2) hx hb dX5_defect_26 (by decide) ?_
      refine lv_aload_n hx hb dX5_defect_27 rfl (lv_at hl 1 rfl) ?_
      refine va_get (ci := 5) (v := .ref (g (b + 6))) (C := RX5) (T := TX5) (N := 12) hx hb hts iw_X5_defect_X5 hown hK hP 0 rfl rfl 8 (by decide) (hts (.fieldLink RX5 26 "BallastTrackModel" "rail" "[I") (List.mem_of_getElem? (i := 2) rfl)) (fun _ h9 => h9) rfl dX5_defect_28 ?_
      refine lv_iload_n hx hb dX5_defect_31 rfl (lv_at hl 2 rfl) ?_
      obtain ⟨hi22, hf⟩ := ix_i hf
      refine va_iald hx hb hK hP 6 0 rfl rfl hi22 dX5_defect_32 ?_
      refine lv_topi (fun x23 ex23 => ?_)
      replace hf := nm_i hf ex23
      refine lv_imul hx hb dX5_defect_33 ?_
      refine lv_topi (fun x24 ex24 => ?_)
      replace hf := nm_i hf ex24
      refine lv_aload_n hx hb dX5_defect_34 rfl (lv_at hl 1 rfl) ?_
      refine va_get (ci := 5) (v := .ref (g (b + 6))) (C := RX5) (T := TX5) (N := 12) hx hb hts iw_X5_defect_X5 hown hK hP 0 rfl rfl 8 (by decide) (hts (.fieldLink RX5 26 "BallastTrackModel" "rail" "[I") (List.mem_of_getElem? (i := 2) rfl)) (fun _ h9 => h9) rfl dX5_defect_35 ?_
      refine lv_iload_n hx hb dX5_defect_38 rfl (lv_at hl 2 rfl) ?_
      refine lv_iload_n hx hb dX5_defect_39 rfl (lv_at hl 0 rfl) ?_
      refine lv_isub hx hb dX5_defect_40 ?_
      refine lv_topi (fun x25 ex25 => ?_)
      replace hf := nm_i hf ex25
      obtain ⟨hi26, hf⟩ := ix_i hf
      refine va_iald hx hb hK hP 6 0 rfl rfl hi26 dX5_defect_41 ?_
      refine lv_topi (fun x27 ex27 => ?_)
      replace hf := nm_i hf ex27
      refine lv_isub hx hb dX5_defect_42 ?_
      refine lv_topi (fun x28 ex28 => ?_)
      replace hf := nm_i hf ex28
      refine lv_aload_n hx hb dX5_defect_43 rfl (lv_at hl 1 rfl) ?_
      refine va_get (ci := 5) (v := .ref (g (b + 6))) (C := RX5) (T := TX5) (N := 12) hx hb hts iw_X5_defect_X5 hown hK hP 0 rfl rfl 8 (by decide) (hts (.fieldLink RX5 26 "BallastTrackModel" "rail" "[I") (List.mem_of_getElem? (i := 2) rfl)) (fun _ h9 => h9) rfl dX5_defect_44 ?_
      refine lv_iload_n hx hb dX5_defect_47 rfl (lv_at hl 2 rfl) ?_
      refine lv_iload_n hx hb dX5_defect_48 rfl (lv_at hl 0 rfl) ?_
      refine lv_iadd hx hb dX5_defect_49 ?_
      refine lv_topi (fun x29 ex29 => ?_)
      replace hf := nm_i hf ex29
      obtain ⟨hi30, hf⟩ := ix_i hf
      refine va_iald hx hb hK hP 6 0 rfl rfl hi30 dX5_defect_50 ?_
      refine lv_topi (fun x31 ex31 => ?_)
      replace hf := nm_i hf ex31
      refine lv_isub hx hb dX5_defect_51 ?_
      refine lv_topi (fun x32 ex32 => ?_)
      replace hf := nm_i hf ex32
      obtain rfl := Option.some.inj hf
      subst hQ
      exact en_i hx hb hr hP hS hlocks dX5_defect_52
    · replace hf := it_f hf c21
      refine lv_iconst (v := 0) hx hb dX5_defect_24 (by decide) ?_
      obtain rfl := Option.some.inj hf
      subst hQ
      exact en_i hx hb hr hP hS hlocks dX5_defect_25
