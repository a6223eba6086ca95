theorem iw_X5_works_X5 : ∀ w ∈ u_ws RX5 TX5 12, w ∈ wsX5_works := by decide +kernel
def lb_X5_works_7 (fu : Nat)  (rec : Int32 → Int32 → Int32 → TM → Option (Int32 × Int32 × TM)) (v560 : Int32) (v561 : Int32) (v562 : Int32) (u563 : TM) : Option (Int32 × Int32 × TM) :=
if v562 = 0 then (
some (v560, v561, u563)
)
else (
ix ((16 : Int32)) 281 <|
nm ((M_ss u563) ((16 : Int32)).toNatClampNeg) fun (x568 : Int32) =>
if x568 ≤ 0 then (
some (v560, v561, u563)
)
else (
bd (f_X5_jobOf fu u563 ((0 : Int32)) ((3 : Int32))) fun (o570 : Int32) =>
bd (f_X5_jobOf fu u563 ((0 : Int32)) ((2 : Int32))) fun (o571 : Int32) =>
bd (f_X5_liftOf fu u563 o570 o571) fun (o572 : Int32) =>
ix ((8 : Int32)) 281 <|
nm ((M_ss u563) ((8 : Int32)).toNatClampNeg) fun (x574 : Int32) =>
jn (fun (x576 : Int32) =>
jn (fun (x710 : Int32) =>
jn (fun (x779 : Int32) (x780 : Int32) (u781 : TM) =>
jn (fun (u817 : TM) =>
rec x779 x780 x710 u817
) fun K150_818 =>
if x710 = 0 then (
K150_818 u781
)
else (
ix ((20 : Int32)) 281 <|
nm ((M_ss u781) ((20 : Int32)).toNatClampNeg) fun (x821 : Int32) =>
nm (x821 + (1 : Int32)) fun (x822 : Int32) =>
ix ((20 : Int32)) 281 <|
nm (M_ss_ u781 (upd (M_ss u781) ((20 : Int32)).toNatClampNeg x822)) fun (u824 : TM) =>
ix ((20 : Int32)) 281 <|
nm ((M_ss u824) ((20 : Int32)).toNatClampNeg) fun (x826 : Int32) =>
bd (f_X5_jobOf fu u824 ((0 : Int32)) ((1 : Int32))) fun (o827 : Int32) =>
if x826 ≤ o827 then (
K150_818 u824
)
else (
bd (f_X5_drops fu u824 ((0 : Int32))) fun (o829 : TM) =>
K150_818 o829
)
)
) fun K113_805 =>
if x710 = 0 then (
K113_805 v560 v561 u563
)
else (
if x576 = 0 then (
K113_805 v560 v561 u563
)
else (
bd (f_X5_minutesFor fu  o572) fun (o832 : Int32) =>
nm (v560 - o832) fun (x833 : Int32) =>
bd (f_X5_lift fu u563 o570 o572) fun (o834 : TM) =>
nm (v561 + (1 : Int32)) fun (x835 : Int32) =>
K113_805 x833 x835 o834
)
)
) fun K82_772 =>
jn (K82_772 ((1 : Int32))
) fun K77_836 =>
if x576 = 0 then (
K77_836 
)
else (
bd (f_X5_minutesFor fu  o572) fun (o838 : Int32) =>
if v560 < o838 then (
K82_772 ((0 : Int32))
)
else (
K77_836 
)
)
) fun K61_706 =>
if o572 < x574 then (
K61_706 ((0 : Int32))
)
else (
K61_706 ((1 : Int32))
)
)
)

def lf_X5_works_7 (fu : Nat)  : Nat → Int32 → Int32 → Int32 → TM → Option (Int32 × Int32 × TM) := lq_4 (lb_X5_works_7 fu )
def f_X5_works (fu : Nat) (u_mo : TM) (p0 : Int32) : Option (Int32 × TM) :=
bd (lf_X5_works_7 fu  fu p0 ((0 : Int32)) ((1 : Int32)) u_mo) fun (z565 : Int32 × Int32 × TM) =>
ix ((12 : Int32)) 281 <|
nm ((M_ss z565.2.2) ((12 : Int32)).toNatClampNeg) fun (x842 : Int32) =>
nm (p0 - z565.1) fun (x843 : Int32) =>
nm (x842 + x843) fun (x844 : Int32) =>
ix ((12 : Int32)) 281 <|
nm (M_ss_ z565.2.2 (upd (M_ss z565.2.2) ((12 : Int32)).toNatClampNeg x844)) fun (u846 : TM) =>
some (z565.2.1, u846)

abbrev rm_X5_works : Room := { frames := 2, cells := 0, slots := 0, locals := 43 }
set_option maxHeartbeats 4000000 in
set_option maxRecDepth 100000 in
theorem c_X5_works (l : Launch) (D : va_G) (cT : Nat → ClassId) (g : Nat → Nat) (b : Nat) (fu : Nat) (u_mo : TM) (p0 : Int32) (o : Int32 × TM) (hf : f_X5_works fu u_mo p0 = some o) (sz : Nat) : Met l yX5_works wsX5_works rm_X5_works (va_Pc [.ref (g b), .int p0] (PRE D cT sz (List.flatten [wM cT g b u_mo]))) (QI D o.1 (List.flatten [wM cT g b o.2]) (va_A (List.flatten [wM cT g b u_mo]) sz)) 0 0 (va_A (List.flatten [wM cT g b u_mo]) sz) := by
  refine Met.ofW (cc := cX5_works) (maxL := 8) (ret := (some .int)) (by decide) rfl ?_
  intro p e s m args below meth c s₁ B0 hml hv
  obtain ⟨hav, hsz, hP, hK, hD, hN, hZ⟩ := hv
  have hx := B0.exec
  have hb := B0.bytes
  have hr := B0.returns
  have hts := atoms_spec (ws := wsX5_works) B0.pre
  have hown : s.vm.findClass RX5 = some m.cls := findClass_of_methodNamed B0.named
  have hlocks := B0.notSynchronized
  subst hsz
  have hD := hD.self (sz := s.heap.size)
  have hA : ∀ q : Nat, s.heap.size ≤ q → va_A (List.flatten [wM cT g b u_mo]) s.heap.size q := fun q h => Or.inr h
  generalize va_A (List.flatten [wM cT g b u_mo]) s.heap.size = A at hD hZ hA ⊢
  have hS : va_S A s.heap s.heap [] := va_S.rf
  have hl := lv_entry ([.ref (g b), .int p0]) (n := 8) (Nat.le_of_ble_eq_true rfl)
  rw [hav]
  rw [lg_entry_eq]
  generalize (lg_sl ([.ref (g b), .int p0]) ++ List.replicate (8 - (lg_sl ([.ref (g b), .int p0])).length) Slot.unset).toArray = ls at hl ⊢
  have hl : lv_has ls 8 [(0, .ref (g b)), (1, .int p0)] := hl
  rw [← hav]
  generalize hQ : MQ below _ _ _ _ _ _ = Q
  show W p l e rm_X5_works s m args below meth c s.heap [] 0 0 Q (F0 m 0 ls [])
  unfold f_X5_works at hf
  refine lv_iload_n hx hb dX5_works_0 rfl (lv_at hl 1 rfl) ?_
  refine lv_istore_n (lv' := [(2, .int p0), (0, .ref (g b)), (1, .int p0)]) hx hb dX5_works_1 rfl hl (by decide) rfl (fun ls hl => ?_)
  refine lv_iconst (v := 0) hx hb dX5_works_2 (by decide) ?_
  refine lv_istore_n (lv' := [(3, .int ((0 : Int32))), (2, .int p0), (0, .ref (g b)), (1, .int p0)]) hx hb dX5_works_3 rfl hl (by decide) rfl (fun ls hl => ?_)
  refine lv_iconst (v := 1) hx hb dX5_works_4 (by decide) ?_
  refine lv_istore (lv' := [(4, .int ((1 : Int32))), (3, .int ((0 : Int32))), (2, .int p0), (0, .ref (g b)), (1, .int p0)]) hx hb dX5_works_5 hl (by decide) rfl (fun ls hl => ?_)
  obtain ⟨z565, hz565, hf⟩ := bd_i hf
  have hL7 : ∀ (n : Nat) (v560 : Int32) (v561 : Int32) (v562 : Int32) (u563 : TM) (z564 : Int32 × Int32 × TM), lf_X5_works_7 fu  n v560 v561 v562 u563 = some z564 → ∀ (H : Heap) (locs : List Loc) (ls : Array Slot), va_P D vwCl (List.flatten [wM cT g b u563]) H → va_S A s.heap H locs → lv_has ls 8 [(0, .ref (g b)), (1, .int p0), (2, .int v560), (3, .int v561), (4, .int v562)] → (∀ (H : Heap) (locs : List Loc) (ls : Array Slot), va_P D vwCl (List.flatten [wM cT g b z564.2.2]) H → va_S A s.heap H locs → lv_has ls 8 [(0, .ref (g b)), (1, .int p0), (2, .int z564.1), (3, .int z564.2.1)] → W p l e rm_X5_works s m args below meth c H locs 0 0 Q (F0 m 153 ls [])) → W p l e rm_X5_works s m args below meth c H locs 0 0 Q (F0 m 7 ls []) := by
    refine lq_4_ind (F := lb_X5_works_7 fu ) (fun rec ih v560 v561 v562 u563 z564 hf H locs ls hP hS hl kx => ?_)
    unfold lb_X5_works_7 at hf
    refine lv_iload hx hb dX5_works_7 (lv_at hl 4 rfl) ?_
    refine lv_if_eq (tgt := 153) hx hb dX5_works_9 (by decide) (fun c566 => ?_) (fun c566 => ?_)
    · replace hf := it_t hf c566
      obtain rfl := Option.some.inj hf
      exact kx _ _ _ hP hS (lv_sub hl [0, 1, 2, 3] rfl)
    · replace hf := it_f hf c566
      refine lv_aload_n hx hb dX5_works_12 rfl (lv_at hl 0 rfl) ?_
      refine va_get (ci := 5) (v := .ref (g (b + 1))) (C := RX5) (T := TX5) (N := 12) hx hb hts iw_X5_works_X5 hown hK hP 0 rfl rfl 0 (by decide) (hts (.fieldLink RX5 7 "BallastTrackModel" "s" "[I") (List.mem_of_getElem? (i := 1) rfl)) (fun _ h9 => h9) rfl dX5_works_13 ?_
      refine lv_bipush (v := 16) hx hb dX5_works_16 (by decide) ?_
      obtain ⟨hi567, hf⟩ := ix_i hf
      refine va_iald hx hb hK hP 1 0 rfl rfl hi567 dX5_works_18 ?_
      refine lv_topi (fun x568 ex568 => ?_)
      replace hf := nm_i hf ex568
      refine lv_if_le (tgt := 153) hx hb dX5_works_19 (by decide) (fun c569 => ?_) (fun c569 => ?_)
      · replace hf := it_t hf c569
        obtain rfl := Option.some.inj hf
        exact kx _ _ _ hP hS (lv_sub hl [0, 1, 2, 3] rfl)
      · replace hf := it_f hf c569
        refine lv_aload_n hx hb dX5_works_22 rfl (lv_at hl 0 rfl) ?_
        refine lv_iconst (v := 0) hx hb dX5_works_23 (by decide) ?_
        refine lv_iconst (v := 3) hx hb dX5_works_24 (by decide) ?_
        obtain ⟨o570, ho570, hf⟩ := bd_i hf
        refine cl_i [0] [] [wM cT g b u563] hP (va_D_adr hD rfl) hA hS (va_runV (As := [.int ((0 : Int32)), .int ((3 : Int32))]) (rest := []) ⟨hx, hb, hml, hown, hts⟩ (c_X5_jobOf l D cT g b fu u563 ((0 : Int32)) ((3 : Int32)) o570 ho570 _) (cwV 2 hts gX5_works_X5_jobOf rfl rfl rfl (by decide +kernel) ⟨Nat.le_of_ble_eq_true rfl, Nat.le_of_ble_eq_true rfl⟩) ⟨PRE_blind, va_recv hK hP (ci := 5) (q0 := 0) rfl rfl, PRE_ok [0] (by decide) hP (va_D_adr hD rfl) hA hS hK hN hZ⟩ rfl rfl hl.1 rfl (lv_room (Nat.le_of_ble_eq_true rfl)) dX5_works_25 ⟨Nat.le_of_ble_eq_true rfl, Nat.le_of_ble_eq_true rfl⟩) rfl 1 rfl (by decide) (by decide) (fun H locs hP hS => ?_)
        refine lv_istore (lv' := [(5, .int o570), (0, .ref (g b)), (1, .int p0), (2, .int v560), (3, .int v561), (4, .int v562)]) hx hb dX5_works_28 hl (by decide) rfl (fun ls hl => ?_)
        refine lv_aload_n hx hb dX5_works_30 rfl (lv_at hl 1 rfl) ?_
        refine lv_iload hx hb dX5_works_31 (lv_at hl 0 rfl) ?_
        refine lv_aload_n hx hb dX5_works_33 rfl (lv_at hl 1 rfl) ?_
        refine lv_iconst (v := 0) hx hb dX5_works_34 (by decide) ?_
        refine lv_iconst (v := 2) hx hb dX5_works_35 (by decide) ?_
        obtain ⟨o571, ho571, hf⟩ := bd_i hf
        refine cl_i [0] [] [wM cT g b u563] hP (va_D_adr hD rfl) hA hS (va_runV (As := [.int ((0 : Int32)), .int ((2 : Int32))]) (rest := [.int o570, .ref (g b)]) ⟨hx, hb, hml, hown, hts⟩ (c_X5_jobOf l D cT g b fu u563 ((0 : Int32)) ((2 : Int32)) o571 ho571 _) (cwV 2 hts gX5_works_X5_jobOf rfl rfl rfl (by decide +kernel) ⟨Nat.le_of_ble_eq_true rfl, Nat.le_of_ble_eq_true rfl⟩) ⟨PRE_blind, va_recv hK hP (ci := 5) (q0 := 0) rfl rfl, PRE_ok [0] (by decide) hP (va_D_adr hD rfl) hA hS hK hN hZ⟩ rfl rfl hl.1 rfl (lv_room (Nat.le_of_ble_eq_true rfl)) dX5_works_36 ⟨Nat.le_of_ble_eq_true rfl, Nat.le_of_ble_eq_true rfl⟩) rfl 1 rfl (by decide) (by decide) (fun H locs hP hS => ?_)
        obtain ⟨o572, ho572, hf⟩ := bd_i hf
        refine cl_i [0] [] [wM cT g b u563] hP (va_D_adr hD rfl) hA hS (va_runV (As := [.int o570, .int o571]) (rest := []) ⟨hx, hb, hml, hown, hts⟩ (c_X5_liftOf l D cT g b fu u563 o570 o571 o572 ho572 _) (cwV 2 hts gX5_works_X5_liftOf rfl rfl rfl (by decide +kernel) ⟨Nat.le_of_ble_eq_true rfl, Nat.le_of_ble_eq_true rfl⟩) ⟨PRE_blind, va_recv hK hP (ci := 5) (q0 := 0) rfl rfl, PRE_ok [0] (by decide) hP (va_D_adr hD rfl) hA hS hK hN hZ⟩ rfl rfl hl.1 rfl (lv_room (Nat.le_of_ble_eq_true rfl)) dX5_works_39 ⟨Nat.le_of_ble_eq_true rfl, Nat.le_of_ble_eq_true rfl⟩) rfl 1 rfl (by decide) (by decide) (fun H locs hP hS => ?_)
        refine lv_istore (lv' := [(6, .int o572), (5, .int o570), (0, .ref (g b)), (1, .int p0), (2, .int v560), (3, .int v561), (4, .int v562)]) hx hb dX5_works_42 hl (by decide) rfl (fun ls hl => ?_)
        refine lv_iload hx hb dX5_works_44 (lv_at hl 0 rfl) ?_
        refine lv_aload_n hx hb dX5_works_46 rfl (lv_at hl 2 rfl) ?_
        refine va_get (ci := 5) (v := .ref (g (b + 1))) (C := RX5) (T := TX5) (N := 12) hx hb hts iw_X5_works_X5 hown hK hP 0 rfl rfl 0 (by decide) (hts (.fieldLink RX5 7 "BallastTrackModel" "s" "[I") (List.mem_of_getElem? (i := 1) rfl)) (fun _ h9 => h9) rfl dX5_works_47 ?_
        refine lv_bipush (v := 8) hx hb dX5_works_50 (by decide) ?_
        obtain ⟨hi573, hf⟩ := ix_i hf
        refine va_iald hx hb hK hP 1 0 rfl rfl hi573 dX5_works_52 ?_
        refine lv_topi (fun x574 ex574 => ?_)
        replace hf := nm_i hf ex574
        obtain ⟨K61_706, eK61_706, hf⟩ := jn_i hf
        have hK61_706 : ∀ (x576 : Int32) (H : Heap) (locs : List Loc) (ls : Array Slot), K61_706 x576 = some z564 → va_P D vwCl (List.flatten [wM cT g b u563]) H → va_S A s.heap H locs → lv_has ls 8 [(0, .ref (g b)), (1, .int p0), (2, .int v560), (3, .int v561), (5, .int o570), (6, .int o572)] → W p l e rm_X5_works s m args below meth c H locs 0 0 Q (F0 m 61 ls [.int x576]) := by
          intro x576 H locs ls hf hP hS hl
          rw [eK61_706] at hf
          refine lv_istore (lv' := [(7, .int x576), (0, .ref (g b)), (1, .int p0), (2, .int v560), (3, .int v561), (5, .int o570), (6, .int o572)]) hx hb dX5_works_61 hl (by decide) rfl (fun ls hl => ?_)
          refine lv_iload hx hb dX5_works_63 (lv_at hl 0 rfl) ?_
          obtain ⟨K82_772, eK82_772, hf⟩ := jn_i hf
          have hK82_772 : ∀ (x710 : Int32) (H : Heap) (locs : List Loc) (ls : Array Slot), K82_772 x710 = some z564 → va_P D vwCl (List.flatten [wM cT g b u563]) H → va_S A s.heap H locs → lv_has ls 8 [(0, .ref (g b)), (1, .int p0), (2, .int v560), (3, .int v561), (5, .int o570), (6, .int o572), (7, .int x576)] → W p l e rm_X5_works s m args below meth c H locs 0 0 Q (F0 m 82 ls [.int x710]) := by
            intro x710 H locs ls hf hP hS hl
            rw [eK82_772] at hf
            refine lv_istore (lv' := [(4, .int x710), (0, .ref (g b)), (1, .int p0), (2, .int v560), (3, .int v561), (5, .int o570), (6, .int o572), (7, .int x576)]) hx hb dX5_works_82 hl (by decide) rfl (fun ls hl => ?_)
            refine lv_iload hx hb dX5_works_84 (lv_at hl 0 rfl) ?_
            obtain ⟨K113_805, eK113_805, hf⟩ := jn_i hf
            have hK113_805 : ∀ (x779 : Int32) (x780 : Int32) (u781 : TM) (H : Heap) (locs : List Loc) (ls : Array Slot), K113_805 x779 x780 u781 = some z564 → va_P D vwCl (List.flatten [wM cT g b u781]) H → va_S A s.heap H locs → lv_has ls 8 [(0, .ref (g b)), (1, .int p0), (2, .int x779), (3, .int x780), (4, .int x710)] → W p l e rm_X5_works s m args below meth c H locs 0 0 Q (F0 m 113 ls []) := by
              intro x779 x780 u781 H locs ls hf hP hS hl
              rw [eK113_805] at hf
              refine lv_iload hx hb dX5_works_113 (lv_at hl 4 rfl) ?_
              obtain ⟨K150_818, eK150_818, hf⟩ := jn_i hf
              have hK150_818 : ∀ (u817 : TM) (H : Heap) (locs : List Loc) (ls : Array Slot), K150_818 u817 = some z564 → va_P D vwCl (List.flatten [wM cT g b u817]) H → va_S A s.heap H locs → lv_has ls 8 [(0, .ref (g b)), (1, .int p0), (2, .int x779), (3, .int x780), (4, .int x710)] → W p l e rm_X5_works s m args below meth c H locs 0 0 Q (F0 m 150 ls []) := by
                intro u817 H locs ls hf hP hS hl
                rw [eK150_818] at hf
                refine lv_goto (tgt := 7) hx hb dX5_works_150 (by decide) ?_
                exact ih _ _ _ _ _ hf _ _ _ hP hS (lv_sub hl [0, 1, 2, 3, 4] rfl) kx
              clear eK150_818
              refine lv_if_eq (tgt := 150) hx hb dX5_works_115 (by decide) (fun c819 => ?_) (fun c819 => ?_)
              · replace hf := it_t hf c819
                exact hK150_818 _ _ _ _ hf hP hS (lv_sub hl [0, 1, 2, 3, 4] rfl)
              · replace hf := it_f hf c819
                refine lv_aload_n hx hb dX5_works_118 rfl (lv_at hl 0 rfl) ?_
                refine va_get (ci := 5) (v := .ref (g (b + 1))) (C := RX5) (T := TX5) (N := 12) hx hb hts iw_X5_works_X5 hown hK hP 0 rfl rfl 0 (by decide) (hts (.fieldLink RX5 7 "BallastTrackModel" "s" "[I") (List.mem_of_getElem? (i := 1) rfl)) (fun _ h9 => h9) rfl dX5_works_119 ?_
                refine lv_bipush (v := 20) hx hb dX5_works_122 (by decide) ?_
                refine lv_dup2_11 hx hb dX5_works_124 rfl rfl ?_
                obtain ⟨hi820, hf⟩ := ix_i hf
                refine va_iald hx hb hK hP 1 0 rfl rfl hi820 dX5_works_125 ?_
                refine lv_topi (fun x821 ex821 => ?_)
                replace hf := nm_i hf ex821
                refine lv_iconst (v := 1) hx hb dX5_works_126 (by decide) ?_
                refine lv_iadd hx hb dX5_works_127 ?_
                refine lv_topi (fun x822 ex822 => ?_)
                replace hf := nm_i hf ex822
                obtain ⟨hi823, hf⟩ := ix_i hf
                refine va_iast hx hb hK hP (va_D_adr hD rfl) hS 1 0 rfl rfl hi823 dX5_works_128 (fun H locs hP _ hS => ?_)
                obtain ⟨u824, eu824⟩ : ∃ z : TM, z = M_ss_ u781 (upd (M_ss u781) ((20 : Int32)).toNatClampNeg x822) := ⟨_, rfl⟩
                replace hf := nm_i hf eu824
                have hP : va_P D vwCl (List.flatten [wM cT g b u824]) H := by rw [eu824]; exact hP
                refine lv_aload_n hx hb dX5_works_129 rfl (lv_at hl 0 rfl) ?_
                refine va_get (ci := 5) (v := .ref (g (b + 1))) (C := RX5) (T := TX5) (N := 12) hx hb hts iw_X5_works_X5 hown hK hP 0 rfl rfl 0 (by decide) (hts (.fieldLink RX5 7 "BallastTrackModel" "s" "[I") (List.mem_of_getElem? (i := 1) rfl)) (fun _ h9 => h9) rfl dX5_works_130 ?_
                refine lv_bipush (v := 20) hx hb dX5_works_133 (by decide) ?_
                obtain ⟨hi825, hf⟩ := ix_i hf
                refine va_iald hx hb hK hP 1 0 rfl rfl hi825 dX5_works_135 ?_
                refine lv_topi (fun x826 ex826 => ?_)
                replace hf := nm_i hf ex826
                refine lv_aload_n hx hb dX5_works_136 rfl (lv_at hl 0 rfl) ?_
                refine lv_iconst (v := 0) hx hb dX5_works_137 (by decide) ?_
                refine lv_iconst (v := 1) hx hb dX5_works_138 (by decide) ?_
                obtain ⟨o827, ho827, hf⟩ := bd_i hf
                refine cl_i [0] [] [wM cT g b u824] hP (va_D_adr hD rfl) hA hS (va_runV (As := [.int ((0 : Int32)), .int ((1 : Int32))]) (rest := [.int x826]) ⟨hx, hb, hml, hown, hts⟩ (c_X5_jobOf l D cT g b fu u824 ((0 : Int32)) ((1 : Int32)) o827 ho827 _) (cwV 2 hts gX5_works_X5_jobOf rfl rfl rfl (by decide +kernel) ⟨Nat.le_of_ble_eq_true rfl, Nat.le_of_ble_eq_true rfl⟩) ⟨PRE_blind, va_recv hK hP (ci := 5) (q0 := 0) rfl rfl, PRE_ok [0] (by decide) hP (va_D_adr hD rfl) hA hS hK hN hZ⟩ rfl rfl hl.1 rfl (lv_room (Nat.le_of_ble_eq_true rfl)) dX5_works_139 ⟨Nat.le_of_ble_eq_true rfl, Nat.le_of_ble_eq_true rfl⟩) rfl 1 rfl (by decide) (by decide) (fun H locs hP hS => ?_)
                refine lv_icmp_le (tgt := 150) hx hb dX5_works_142 (by decide) (fun c828 => ?_) (fun c828 => ?_)
                · replace hf := it_t hf c828
                  exact hK150_818 _ _ _ _ hf hP hS (lv_sub hl [0, 1, 2, 3, 4] rfl)
                · replace hf := it_f hf c828
                  refine lv_aload_n hx hb dX5_works_145 rfl (lv_at hl 0 rfl) ?_
                  refine lv_iconst (v := 0) hx hb dX5_works_146 (by decide) ?_
                  obtain ⟨o829, ho829, hf⟩ := bd_i hf
                  refine cl_v [0] [] [wM cT g b o829] hP (va_D_adr hD rfl) hA hS (va_runV (As := [.int ((0 : Int32))]) (rest := []) ⟨hx, hb, hml, hown, hts⟩ (c_X5_drops l D cT g b fu u824 ((0 : Int32)) o829 ho829 _) (cwV 1 hts gX5_works_X5_drops rfl rfl rfl (by decide +kernel) ⟨Nat.le_of_ble_eq_true rfl, Nat.le_of_ble_eq_true rfl⟩) ⟨PRE_blind, va_recv hK hP (ci := 5) (q0 := 0) rfl rfl, PRE_ok [0] (by decide) hP (va_D_adr hD rfl) hA hS hK hN hZ⟩ rfl rfl hl.1 rfl (lv_room (Nat.le_of_ble_eq_true rfl)) dX5_works_147 ⟨Nat.le_of_ble_eq_true rfl, Nat.le_of_ble_eq_true rfl⟩) rfl 1 rfl (by decide) (by decide) (fun H locs hP hS => ?_)
                  exact hK150_818 _ _ _ _ hf hP hS (lv_sub hl [0, 1, 2, 3, 4] rfl)
            clear eK113_805
            refine lv_if_eq (tgt := 113) hx hb dX5_works_86 (by decide) (fun c830 => ?_) (fun c830 => ?_)
            · replace hf := it_t hf c830
              exact hK113_805 _ _ _ _ _ _ hf hP hS (lv_sub hl [1, 2, 3, 4, 0] rfl)
            · replace hf := it_f hf c830
              refine lv_iload hx hb dX5_works_89 (lv_at hl 7 rfl) ?_
              refine lv_if_eq (tgt := 113) hx hb dX5_works_91 (by decide) (fun c831 => ?_) (fun c831 => ?_)
              · replace hf := it_t hf c831
                exact hK113_805 _ _ _ _ _ _ hf hP hS (lv_sub hl [1, 2, 3, 4, 0] rfl)
              · replace hf := it_f hf c831
                refine lv_iload_n hx hb dX5_works_94 rfl (lv_at hl 3 rfl) ?_
                refine lv_iload hx hb dX5_works_95 (lv_at hl 6 rfl) ?_
                obtain ⟨o832, ho832, hf⟩ := bd_i hf
                refine cl_i [] [0] [wM cT g b u563] hP (va_D_adr hD rfl) hA hS (va_runS (As := [.int o572]) (rest := [.int v560]) ⟨hx, hb, hml, hown, hts⟩ (c_X5_minutesFor l D cT g  fu  o572 o832 ho832 _) (va_cwS 1 hts gX5_works_X5_minutesFor rfl rfl rfl (by decide +kernel) ⟨Nat.le_of_ble_eq_true rfl, Nat.le_of_ble_eq_true rfl⟩) ⟨PRE_blind, PRE_ok [] (by decide) hP (va_D_adr hD rfl) hA hS hK hN hZ⟩ rfl rfl hl.1 rfl (lv_room (Nat.le_of_ble_eq_true rfl)) dX5_works_97 ⟨Nat.le_of_ble_eq_true rfl, Nat.le_of_ble_eq_true rfl⟩) rfl 1 rfl (by decide) (by decide) (fun H locs hP hS => ?_)
                refine lv_isub hx hb dX5_works_100 ?_
                refine lv_topi (fun x833 ex833 => ?_)
                replace hf := nm_i hf ex833
                refine lv_istore_n (lv' := [(2, .int x833), (4, .int x710), (0, .ref (g b)), (1, .int p0), (3, .int v561), (5, .int o570), (6, .int o572), (7, .int x576)]) hx hb dX5_works_101 rfl hl (by decide) rfl (fun ls hl => ?_)
                refine lv_aload_n hx hb dX5_works_102 rfl (lv_at hl 2 rfl) ?_
                refine lv_iload hx hb dX5_works_103 (lv_at hl 5 rfl) ?_
                refine lv_iload hx hb dX5_works_105 (lv_at hl 6 rfl) ?_
                obtain ⟨o834, ho834, hf⟩ := bd_i hf
                refine cl_v [0] [] [wM cT g b o834] hP (va_D_adr hD rfl) hA hS (va_runV (As := [.int o570, .int o572]) (rest := []) ⟨hx, hb, hml, hown, hts⟩ (c_X5_lift l D cT g b fu u563 o570 o572 o834 ho834 _) (cwV 2 hts gX5_works_X5_lift rfl rfl rfl (by decide +kernel) ⟨Nat.le_of_ble_eq_true rfl, Nat.le_of_ble_eq_true rfl⟩) ⟨PRE_blind, va_recv hK hP (ci := 5) (q0 := 0) rfl rfl, PRE_ok [0] (by decide) hP (va_D_adr hD rfl) hA hS hK hN hZ⟩ rfl rfl hl.1 rfl (lv_room (Nat.le_of_ble_eq_true rfl)) dX5_works_107 ⟨Nat.le_of_ble_eq_true rfl, Nat.le_of_ble_eq_true rfl⟩) rfl 1 rfl (by decide) (by decide) (fun H locs hP hS => ?_)
                obtain ⟨x835, ex835⟩ : ∃ z : Int32, z = v561 + (1 : Int32) := ⟨_, rfl⟩
                replace hf := nm_i hf ex835
                refine lv_iinc (v := x835) (lv' := [(3, .int x835), (2, .int x833), (4, .int x710), (0, .ref (g b)), (1, .int p0), (5, .int o570), (6, .int o572), (7, .int x576)]) hx hb dX5_works_110 hl (k := 4) rfl (by rw [ex835]; rfl) (by decide) rfl (fun ls hl => ?_)
                exact hK113_805 _ _ _ _ _ _ hf hP hS (lv_sub hl [3, 4, 1, 0, 2] rfl)
          clear eK82_772
          obtain ⟨K77_836, eK77_836, hf⟩ := jn_i hf
          have hK77_836 : ∀  (H : Heap) (locs : List Loc) (ls : Array Slot), K77_836  = some z564 → va_P D vwCl (List.flatten [wM cT g b u563]) H → va_S A s.heap H locs → lv_has ls 8 [(0, .ref (g b)), (1, .int p0), (2, .int v560), (3, .int v561), (5, .int o570), (6, .int o572), (7, .int x576)] → W p l e rm_X5_works s m args below meth c H locs 0 0 Q (F0 m 77 ls []) := by
            intro  H locs ls hf hP hS hl
            rw [eK77_836] at hf
            refine lv_iconst (v := 1) hx hb dX5_works_77 (by decide) ?_
            refine lv_goto (tgt := 82) hx hb dX5_works_78 (by decide) ?_
            exact hK82_772 _ _ _ _ hf hP hS (lv_sub hl [0, 1, 2, 3, 4, 5, 6] rfl)
          clear eK77_836
          refine lv_if_eq (tgt := 77) hx hb dX5_works_65 (by decide) (fun c837 => ?_) (fun c837 => ?_)
          · replace hf := it_t hf c837
            exact hK77_836  _ _ _ hf hP hS (lv_sub hl [1, 2, 3, 4, 5, 6, 0] rfl)
          · replace hf := it_f hf c837
            refine lv_iload hx hb dX5_works_68 (lv_at hl 6 rfl) ?_
            obtain ⟨o838, ho838, hf⟩ := bd_i hf
            refine cl_i [] [0] [wM cT g b u563] hP (va_D_adr hD rfl) hA hS (va_runS (As := [.int o572]) (rest := []) ⟨hx, hb, hml, hown, hts⟩ (c_X5_minutesFor l D cT g  fu  o572 o838 ho838 _) (va_cwS 1 hts gX5_works_X5_minutesFor rfl rfl rfl (by decide +kernel) ⟨Nat.le_of_ble_eq_true rfl, Nat.le_of_ble_eq_true rfl⟩) ⟨PRE_blind, PRE_ok [] (by decide) hP (va_D_adr hD rfl) hA hS hK hN hZ⟩ rfl rfl hl.1 rfl (lv_room (Nat.le_of_ble_eq_true rfl)) dX5_works_70 ⟨Nat.le_of_ble_eq_true rfl, Nat.le_of_ble_eq_true rfl⟩) rfl 1 rfl (by decide) (by decide) (fun H locs hP hS => ?_)
            refine lv_iload_n hx hb dX5_works_73 rfl (lv_at hl 3 rfl) ?_
            refine lv_icmp_gt (tgt := 81) hx hb dX5_works_74 (by decide) (fun c839 => ?_) (fun c839 => ?_)
            · replace hf := it_t hf c839
              refine lv_iconst (v := 0) hx hb dX5_works_81 (by decide) ?_
              exact hK82_772 _ _ _ _ hf hP hS (lv_sub hl [1, 2, 3, 4, 5, 6, 0] rfl)
            · replace hf := it_f hf c839
              exact hK77_836  _ _ _ hf hP hS (lv_sub hl [1, 2, 3, 4, 5, 6, 0] rfl)
        clear eK61_706
        refine lv_icmp_lt (tgt := 60) hx hb dX5_works_53 (by decide) (fun c840 => ?_) (fun c840 => ?_)
        · replace hf := it_t hf c840
          refine lv_iconst (v := 0) hx hb dX5_works_60 (by decide) ?_
          exact hK61_706 _ _ _ _ hf hP hS (lv_sub hl [2, 3, 4, 5, 1, 0] rfl)
        · replace hf := it_f hf c840
          refine lv_iconst (v := 1) hx hb dX5_works_56 (by decide) ?_
          refine lv_goto (tgt := 61) hx hb dX5_works_57 (by decide) ?_
          exact hK61_706 _ _ _ _ hf hP hS (lv_sub hl [2, 3, 4, 5, 1, 0] rfl)
  refine hL7 fu _ _ _ _ _ hz565 _ _ _ hP hS (lv_sub hl [3, 4, 2, 1, 0] rfl) (fun H locs ls hP hS hl => ?_)
  refine lv_aload_n hx hb dX5_works_153 rfl (lv_at hl 0 rfl) ?_
  refine va_get (ci := 5) (v := .ref (g (b + 1))) (C := RX5) (T := TX5) (N := 12) hx hb hts iw_X5_works_X5 hown hK hP 0 rfl rfl 0 (by decide) (hts (.fieldLink RX5 7 "BallastTrackModel" "s" "[I") (List.mem_of_getElem? (i := 1) rfl)) (fun _ h9 => h9) rfl dX5_works_154 ?_
  refine lv_bipush (v := 12) hx hb dX5_works_157 (by decide) ?_
  refine lv_dup2_11 hx hb dX5_works_159 rfl rfl ?_
  obtain ⟨hi841, hf⟩ := ix_i hf
  refine va_iald hx hb hK hP 1 0 rfl rfl hi841 dX5_works_160 ?_
  refine lv_topi (fun x842 ex842 => ?_)
  replace hf := nm_i hf ex842
  refine lv_iload_n hx hb dX5_works_161 rfl (lv_at hl 1 rfl) ?_
  refine lv_iload_n hx hb dX5_works_162 rfl (lv_at hl 2 rfl) ?_
  refine lv_isub hx hb dX5_works_163 ?_
  refine lv_topi (fun x843 ex843 => ?_)
  replace hf := nm_i hf ex843
  refine lv_iadd hx hb dX5_works_164 ?_
  refine lv_topi (fun x844 ex844 => ?_)
  replace hf := nm_i hf ex844
  obtain ⟨hi845, hf⟩ := ix_i hf
  refine va_iast hx hb hK hP (va_D_adr hD rfl) hS 1 0 rfl rfl hi845 dX5_works_165 (fun H locs hP _ hS => ?_)
  obtain ⟨u846, eu846⟩ : ∃ z : TM, z = M_ss_ z565.2.2 (upd (M_ss z565.2.2) ((12 : Int32)).toNatClampNeg x844) := ⟨_, rfl⟩
  replace hf := nm_i hf eu846
  have hP : va_P D vwCl (List.flatten [wM cT g b u846]) H := by rw [eu846]; exact hP
  refine lv_iload_n hx hb dX5_works_166 rfl (lv_at hl 3 rfl) ?_
  obtain rfl := Option.some.inj hf
  subst hQ
  exact en_i hx hb hr hP hS hlocks dX5_works_167
theorem iw_X5_work_X5 : ∀ w ∈ u_ws RX5 TX5 12, w ∈ wsX5_work := by decide +kernel
def f_X5_work (fu : Nat) (u_mo : TM) (p0 : Int32) : Option (Int32 × TM) :=
bd (f_X5_in fu  p0 ((1 : Int32)) ((600 : Int32))) fun (o8 : Bool) =>
if ¬ bI o8 = 0 then (
ix ((16 : Int32)) 281 <|
nm ((M_ss u_mo) ((16 : Int32)).toNatClampNeg) fun (x11 : Int32) =>
if ¬ x11 = 0 then (
bd (f_X5_notes fu u_mo ) fun (o13 : TM) =>
bd (f_X5_works fu o13 p0) fun (o14 : Int32 × TM) =>
some (o14.1, o14.2)
)
else (
some ((-100002 : Int32), u_mo)
)
)
else (
some ((-100001 : Int32), u_mo)
)

abbrev rm_X5_work : Room := { frames := 3, cells := 0, slots := 0, locals := 70 }
set_option maxHeartbeats 4000000 in
set_option maxRecDepth 100000 in
theorem c_X5_work (l : Launch) (D : va_G) (cT : Nat → ClassId) (g : Nat → Nat) (b : Nat) (fu : Nat) (u_mo : TM) (p0 : Int32) (o : Int32 × TM) (hf : f_X5_work fu u_mo p0 = some o) (sz : Nat) : Met l yX5_work wsX5_work rm_X5_work (va_Pc [.ref (g b), .int p0] (PRE D cT sz (List.flatten [wM cT g b u_mo]))) (QI D o.1 (List.flatten [wM cT g b o.2]) (va_A (List.flatten [wM cT g b u_mo]) sz)) 0 0 (va_A (List.flatten [wM cT g b u_mo]) sz) := by
  refine Met.ofW (cc := cX5_work) (maxL := 2) (ret := (some .int)) (by decide) rfl ?_
  intro p e s m args below meth c s₁ B0 hml hv
  obtain ⟨hav, hsz, hP, hK, hD, hN, hZ⟩ := hv
  have hx := B0.exec
  have hb := B0.bytes
  have hr := B0.returns
  have hts := atoms_spec (ws := wsX5_work) B0.pre
  have hown : s.vm.findClass RX5 = some m.cls := findClass_of_methodNamed B0.named
  have hlocks := B0.notSynchronized
  subst hsz
  have hD := hD.self (sz := s.heap.size)
  have hA : ∀ q : Nat, s.heap.size ≤ q → va_A (List.flatten [wM cT g b u_mo]) s.heap.size q := fun q h => Or.inr h
  generalize va_A (List.flatten [wM cT g b u_mo]) s.heap.size = A at hD hZ hA ⊢
  have hS : va_S A s.heap s.heap [] := va_S.rf
  have hl := lv_entry ([.ref (g b), .int p0]) (n := 2) (Nat.le_of_ble_eq_true rfl)
  rw [hav]
  rw [lg_entry_eq]
  generalize (lg_sl ([.ref (g b), .int p0]) ++ List.replicate (2 - (lg_sl ([.ref (g b), .int p0])).length) Slot.unset).toArray = ls at hl ⊢
  have hl : lv_has ls 2 [(0, .ref (g b)), (1, .int p0)] := hl
  rw [← hav]
  generalize hQ : MQ below _ _ _ _ _ _ = Q
  show W p l e rm_X5_work s m args below meth c s.heap [] 0 0 Q (F0 m 0 ls [])
  unfold f_X5_work at hf
  refine lv_iload_n hx hb dX5_work_0 rfl (lv_at hl 1 rfl) ?_
  refine lv_iconst (v := 1) hx hb dX5_work_1 (by decide) ?_
  refine lv_sipush (v := 600) hx hb dX5_work_2 (by decide) ?_
  obtain ⟨o8, ho8, hf⟩ := bd_i hf
  refine cl_i [] [0] [wM cT g b u_mo] hP (va_D_adr hD rfl) hA hS (va_runS (As := [.int p0, .int ((1 : Int32)), .int ((600 : Int32))]) (rest := []) ⟨hx, hb, hml, hown, hts⟩ (c_X5_in l D cT g  fu  p0 ((1 : Int32)) ((600 : Int32)) o8 ho8 _) (va_cwS 3 hts gX5_work_X5_in rfl rfl rfl (by decide +kernel) ⟨Nat.le_of_ble_eq_true rfl, Nat.le_of_ble_eq_true rfl⟩) ⟨PRE_blind, PRE_ok [] (by decide) hP (va_D_adr hD rfl) hA hS hK hN hZ⟩ rfl rfl hl.1 rfl (lv_room (Nat.le_of_ble_eq_true rfl)) dX5_work_5 ⟨Nat.le_of_ble_eq_true rfl, Nat.le_of_ble_eq_true rfl⟩) rfl 1 rfl (by decide) (by decide) (fun H locs hP hS => ?_)
  refine lv_if_ne (tgt := 14) hx hb dX5_work_8 (by decide) (fun c9 => ?_) (fun c9 => ?_)
  · replace hf := it_t hf c9
    refine lv_aload_n hx hb dX5_work_14 rfl (lv_at hl 0 rfl) ?_
    refine va_get (ci := 5) (v := .ref (g (b + 1))) (C := RX5) (T := TX5) (N := 12) hx hb hts iw_X5_work_X5 hown hK hP 0 rfl rfl 0 (by decide) (hts (.fieldLink RX5 7 "BallastTrackModel" "s" "[I") (List.mem_of_getElem? (i := 2) rfl)) (fun _ h9 => h9) rfl dX5_work_15 ?_
    refine lv_bipush (v := 16) hx hb dX5_work_18 (by decide) ?_
    obtain ⟨hi10, hf⟩ := ix_i hf
    refine va_iald hx hb hK hP 1 0 rfl rfl hi10 dX5_work_20 ?_
    refine lv_topi (fun x11 ex11 => ?_)
    replace hf := nm_i hf ex11
    refine lv_if_ne (tgt := 27) hx hb dX5_work_21 (by decide) (fun c12 => ?_) (fun c12 => ?_)
    · replace hf := it_t hf c12
      refine lv_aload_n hx hb dX5_work_27 rfl (lv_at hl 0 rfl) ?_
      obtain ⟨o13, ho13, hf⟩ := bd_i hf
      refine cl_v [0] [] [wM cT g b o13] hP (va_D_adr hD rfl) hA hS (va_runV (As := []) (rest := []) ⟨hx, hb, hml, hown, hts⟩ (c_X5_notes l D cT g b fu u_mo  o13 ho13 _) (cwV 0 hts gX5_work_X5_notes rfl rfl rfl (by decide +kernel) ⟨Nat.le_of_ble_eq_true rfl, Nat.le_of_ble_eq_true rfl⟩) ⟨PRE_blind, va_recv hK hP (ci := 5) (q0 := 0) rfl rfl, PRE_ok [0] (by decide) hP (va_D_adr hD rfl) hA hS hK hN hZ⟩ rfl rfl hl.1 rfl (lv_room (Nat.le_of_ble_eq_true rfl)) dX5_work_28 ⟨Nat.le_of_ble_eq_true rfl, Nat.le_of_ble_eq_true rfl⟩) rfl 1 rfl (by decide) (by decide) (fun H locs hP hS => ?_)
      refine lv_aload_n hx hb dX5_work_31 rfl (lv_at hl 0 rfl) ?_
      refine lv_iload_n hx hb dX5_work_32 rfl (lv_at hl 1 rfl) ?_
      obtain ⟨o14, ho14, hf⟩ := bd_i hf
      refine cl_i [0] [] [wM cT g b o14.2] hP (va_D_adr hD rfl) hA hS (va_runV (As := [.int p0]) (rest := []) ⟨hx, hb, hml, hown, hts⟩ (c_X5_works l D cT g b fu o13 p0 o14 ho14 _) (cwV 1 hts gX5_work_X5_works rfl rfl rfl (by decide +kernel) ⟨Nat.le_of_ble_eq_true rfl, Nat.le_of_ble_eq_true rfl⟩) ⟨PRE_blind, va_recv hK hP (ci := 5) (q0 := 0) rfl rfl, PRE_ok [0] (by decide) hP (va_D_adr hD rfl) hA hS hK hN hZ⟩ rfl rfl hl.1 rfl (lv_room (Nat.le_of_ble_eq_true rfl)) dX5_work_33 ⟨Nat.le_of_ble_eq_true rfl, Nat.le_of_ble_eq_true rfl⟩) rfl 1 rfl (by decide) (by decide) (fun H locs hP hS => ?_)
      obtain rfl := Option.some.inj hf
      subst hQ
      exact en_i hx hb hr hP hS hlocks dX5_work_36
    · replace hf := it_f hf (not_not_intro c12)
      refine lv_ldc (v := -100002) hx hb hown (hts (.constant RX5 36 (-100002)) (List.mem_of_getElem? (i := 3) rfl)) dX5_work_24 ?_
      obtain rfl := Option.some.inj hf
      subst hQ
      exact en_i hx hb hr hP hS hlocks dX5_work_26
  · replace hf := it_f hf (not_not_intro c9)
    refine lv_ldc (v := -100001) hx hb hown (hts (.constant RX5 68 (-100001)) (List.mem_of_getElem? (i := 1) rfl)) dX5_work_11 ?_
    obtain rfl := Option.some.inj hf
    subst hQ
    exact en_i hx hb hr hP hS hlocks dX5_work_13
theorem iw_X5_passes_X5 : ∀ w ∈ u_ws RX5 TX5 12, w ∈ wsX5_passes := by decide +kernel
def lb_X5_passes_30 (fu : Nat)  (rec : Int32 → TM → Option (TM)) (v667 : Int32) (u668 : TM) : Option (TM) :=
ix ((0 : Int32)) 281 <|
nm ((M_ss u668) ((0 : Int32)).toNatClampNeg) fun (x672 : Int32) =>
if x672 ≤ v667 then (
some (u668)
)
else (
bd (f_X5_hangs fu u668 v667) fun (o674 : Bool) =>
jn (fun (u686 : TM) =>
nm (v667 + (1 : Int32)) fun (x689 : Int32) =>
rec x689 u686
) fun K85_688 =>
if bI o674 = 0 then (
K85_688 u668
)
else (
nm ((101 : Int32) + v667) fun (x691 : Int32) =>
nm ((101 : Int32) + v667) fun (x692 : Int32) =>
ix x692 281 <|
nm ((M_ss u668) x692.toNatClampNeg) fun (x694 : Int32) =>
nm (x694 + (1 : Int32)) fun (x695 : Int32) =>
bd (f_X5_lesser fu  ((100 : Int32)) x695) fun (o696 : Int32) =>
ix x691 281 <|
nm (M_ss_ u668 (upd (M_ss u668) x691.toNatClampNeg o696)) fun (u698 : TM) =>
ix v667 60 <|
nm (M_lo_ u698 (upd (M_lo u698) v667.toNatClampNeg ((-1 : Int32)))) fun (u700 : TM) =>
K85_688 u700
)
)

def lf_X5_passes_30 (fu : Nat)  : Nat → Int32 → TM → Option (TM) := lq_2 (lb_X5_passes_30 fu )
def lb_X5_passes_94 (fu : Nat) (p0 : Int32) (p1 : Int32) (x426 : Int32) (rec : Int32 → TM → Option (TM)) (v835 : Int32) (u836 : TM) : Option (TM) :=
ix ((0 : Int32)) 281 <|
nm ((M_ss u836) ((0 : Int32)).toNatClampNeg) fun (x840 : Int32) =>
if x840 ≤ v835 then (
some (u836)
)
else (
ix v835 60 <|
nm ((M_lo u836) v835.toNatClampNeg) fun (x843 : Int32) =>
jn (fun (u906 : TM) =>
nm (v835 + (1 : Int32)) fun (x909 : Int32) =>
rec x909 u906
) fun K232_908 =>
if x843 < 0 then (
K232_908 u836
)
else (
nm (p0.toInt64) fun (y911 : Int64) =>
nm (p1.toInt64) fun (y912 : Int64) =>
nm (y911 * y912) fun (y913 : Int64) =>
ix v835 60 <|
nm ((M_lo u836) v835.toNatClampNeg) fun (x915 : Int32) =>
nm (x915.toInt64) fun (y916 : Int64) =>
nm (y913 * y916) fun (y917 : Int64) =>
nm ((101 : Int32) + v835) fun (x918 : Int32) =>
ix x918 281 <|
nm ((M_ss u836) x918.toNatClampNeg) fun (x920 : Int32) =>
nm ((100 : Int32) + x920) fun (x921 : Int32) =>
nm (x921.toInt64) fun (y922 : Int64) =>
nm (y917 * y922) fun (y923 : Int64) =>
nm (x426.toInt64) fun (y924 : Int64) =>
nm (y923 * y924) fun (y925 : Int64) =>
nm (y925 / (4000000 : Int64)) fun (y926 : Int64) =>
nm ((41 : Int32) + v835) fun (x927 : Int32) =>
ix x927 281 <|
nm ((M_ss u836) x927.toNatClampNeg) fun (x929 : Int32) =>
nm (x929.toInt64) fun (y930 : Int64) =>
nm (y930 - (-9999 : Int64)) fun (y931 : Int64) =>
nm (lg_cmp y926 y931) fun (x932 : Int32) =>
jn (fun (x934 : Int64) =>
nm (x934.toInt32) fun (x954 : Int32) =>
nm ((41 : Int32) + v835) fun (x955 : Int32) =>
ix x955 281 <|
nm ((M_ss u836) x955.toNatClampNeg) fun (x957 : Int32) =>
nm (x957 - x954) fun (x958 : Int32) =>
ix x955 281 <|
nm (M_ss_ u836 (upd (M_ss u836) x955.toNatClampNeg x958)) fun (u960 : TM) =>
nm ((161 : Int32) + v835) fun (x961 : Int32) =>
ix x961 281 <|
nm ((M_ss u960) x961.toNatClampNeg) fun (x963 : Int32) =>
nm (x963 + x954) fun (x964 : Int32) =>
ix x961 281 <|
nm (M_ss_ u960 (upd (M_ss u960) x961.toNatClampNeg x964)) fun (u966 : TM) =>
ix ((9 : Int32)) 281 <|
nm ((M_ss u966) ((9 : Int32)).toNatClampNeg) fun (x968 : Int32) =>
nm (x968 + x954) fun (x969 : Int32) =>
ix ((9 : Int32)) 281 <|
nm (M_ss_ u966 (upd (M_ss u966) ((9 : Int32)).toNatClampNeg x969)) fun (u971 : TM) =>
K232_908 u971
) fun K186_953 =>
if 0 ≤ x932 then (
K186_953 y931
)
else (
K186_953 y926
)
)
)

def lf_X5_passes_94 (fu : Nat) (p0 : Int32) (p1 : Int32) (x426 : Int32) : Nat → Int32 → TM → Option (TM) := lq_2 (lb_X5_passes_94 fu p0 p1 x426)
def f_X5_passes (fu : Nat) (u_mo : TM) (p0 : Int32) (p1 : Int32) (p2 : Int32) : Option (TM) :=
bd (f_X5_laysLoads fu u_mo ) fun (o423 : TM) =>
jn (fun (x426 : Int32) =>
bd (lf_X5_passes_30 fu  fu ((0 : Int32)) o423) fun (z670 : TM) =>
bd (lf_X5_passes_94 fu p0 p1 x426 fu ((0 : Int32)) z670) fun (z838 : TM) =>
ix ((11 : Int32)) 281 <|
nm ((M_ss z838) ((11 : Int32)).toNatClampNeg) fun (x974 : Int32) =>
jn (fun (x977 : Int32) =>
nm (x974 + x977) fun (x994 : Int32) =>
ix ((11 : Int32)) 281 <|
nm (M_ss_ z838 (upd (M_ss z838) ((11 : Int32)).toNatClampNeg x994)) fun (u996 : TM) =>
ix ((13 : Int32)) 281 <|
nm ((M_ss u996) ((13 : Int32)).toNatClampNeg) fun (x998 : Int32) =>
nm (x998 + (1 : Int32)) fun (x999 : Int32) =>
ix ((13 : Int32)) 281 <|
nm (M_ss_ u996 (upd (M_ss u996) ((13 : Int32)).toNatClampNeg x999)) fun (u1001 : TM) =>
ix ((14 : Int32)) 281 <|
nm ((M_ss u1001) ((14 : Int32)).toNatClampNeg) fun (x1003 : Int32) =>
nm (p0 * p1) fun (x1004 : Int32) =>
nm (x1003 + x1004) fun (x1005 : Int32) =>
ix ((14 : Int32)) 281 <|
nm (M_ss_ u1001 (upd (M_ss u1001) ((14 : Int32)).toNatClampNeg x1005)) fun (u1007 : TM) =>
bd (f_X5_laysRail fu u1007 ) fun (o1008 : TM) =>
some (o1008)
) fun K265_993 =>
if ¬ p2 = 0 then (
if ¬ p2 = (1 : Int32) then (
K265_993 ((6 : Int32))
)
else (
K265_993 ((2 : Int32))
)
)
else (
K265_993 ((0 : Int32))
)
) fun K25_635 =>
if ¬ p2 = 0 then (
if ¬ p2 = (1 : Int32) then (
K25_635 ((40 : Int32))
)
else (
K25_635 ((70 : Int32))
)
)
else (
K25_635 ((100 : Int32))
)

abbrev rm_X5_passes : Room := { frames := 4, cells := 0, slots := 0, locals := 89 }
set_option maxHeartbeats 4000000 in
set_option maxRecDepth 100000 in
theorem c_X5_passes (l : Launch) (D : va_G) (cT : Nat → ClassId) (g : Nat → Nat) (b : Nat) (fu : Nat) (u_mo : TM) (p0 : Int32) (p1 : Int32) (p2 : Int32) (o : TM) (hf : f_X5_passes fu u_mo p0 p1 p2 = some o) (sz : Nat) : Met l yX5_passes wsX5_passes rm_X5_passes (va_Pc [.ref (g b), .int p0, .int p1, .int p2] (PRE D cT sz (List.flatten [wM cT g b u_mo]))) (QV D (List.flatten [wM cT g b o]) (va_A (List.flatten [wM cT g b u_mo]) sz)) 0 0 (va_A (List.flatten [wM cT g b u_mo]) sz) := by
  refine Met.ofW (cc := cX5_passes) (maxL := 11) (ret := none) (by decide) rfl ?_
  intro p e s m args below meth c s₁ B0 hml hv
  obtain ⟨hav, hsz, hP, hK, hD, hN, hZ⟩ := hv
  have hx := B0.exec
  have hb := B0.bytes
  have hr := B0.returns
  have hts := atoms_spec (ws := wsX5_passes) B0.pre
  have hown : s.vm.findClass RX5 = some m.cls := findClass_of_methodNamed B0.named
  have hlocks := B0.notSynchronized
  subst hsz
  have hD := hD.self (sz := s.heap.size)
  have hA : ∀ q : Nat, s.heap.size ≤ q → va_A (List.flatten [wM cT g b u_mo]) s.heap.size q := fun q h => Or.inr h
  generalize va_A (List.flatten [wM cT g b u_mo]) s.heap.size = A at hD hZ hA ⊢
  have hS : va_S A s.heap s.heap [] := va_S.rf
  have hl := lv_entry ([.ref (g b), .int p0, .int p1, .int p2]) (n := 11) (Nat.le_of_ble_eq_true rfl)
  rw [hav]
  rw [lg_entry_eq]
  generalize (lg_sl ([.ref (g b), .int p0, .int p1, .int p2]) ++ List.replicate (11 - (lg_sl ([.ref (g b), .int p0, .int p1, .int p2])).length) Slot.unset).toArray = ls at hl ⊢
  have hl : lv_has ls 11 [(0, .ref (g b)), (1, .int p0), (2, .int p1), (3, .int p2)] := hl
  rw [← hav]
  generalize hQ : MQ below _ _ _ _ _ _ = Q
  show W p l e rm_X5_passes s m args below meth c s.heap [] 0 0 Q (F0 m 0 ls [])
  unfold f_X5_passes at hf
  refine lv_aload_n hx hb dX5_passes_0 rfl (lv_at hl 0 rfl) ?_
  obtain ⟨o423, ho423, hf⟩ := bd_i hf
  refine cl_v [0] [] [wM cT g b o423] hP (va_D_adr hD rfl) hA hS (va_runV (As := []) (rest := []) ⟨hx, hb, hml, hown, hts⟩ (c_X5_laysLoads l D cT g b fu u_mo  o423 ho423 _) (cwV 0 hts gX5_passes_X5_laysLoads rfl rfl rfl (by decide +kernel) ⟨Nat.le_of_ble_eq_true rfl, Nat.le_of_ble_eq_true rfl⟩) ⟨PRE_blind, va_recv hK hP (ci := 5) (q0 := 0) rfl rfl, PRE_ok [0] (by decide) hP (va_D_adr hD rfl) hA hS hK hN hZ⟩ rfl rfl hl.1 rfl (lv_room (Nat.le_of_ble_eq_true rfl)) dX5_passes_1 ⟨Nat.le_of_ble_eq_true rfl, Nat.le_of_ble_eq_true rfl⟩) rfl 1 rfl (by decide) (by decide) (fun H locs hP hS => ?_)
  refine lv_iload_n hx hb dX5_passes_4 rfl (lv_at hl 3 rfl) ?_
  obtain ⟨K25_635, eK25_635, hf⟩ := jn_i hf
  have hK25_635 : ∀ (x426 : Int32) (H : Heap) (locs : List Loc) (ls : Array Slot), K25_635 x426 = some o → va_P D vwCl (List.flatten [wM cT g b o423]) H → va_S A s.heap H locs → lv_has ls 11 [(0, .ref (g b)), (1, .int p0), (2, .int p1), (3, .int p2)] → W p l e rm_X5_passes s m args below meth c H locs 0 0 Q (F0 m 25 ls [.int x426]) := by
    intro x426 H locs ls hf hP hS hl
    rw [eK25_635] at hf
    refine lv_istore (lv' := [(4, .int x426), (0, .ref (g b)), (1, .int p0), (2, .int p1), (3, .int p2)]) hx hb dX5_passes_25 hl (by decide) rfl (fun ls hl => ?_)
    refine lv_iconst (v := 0) hx hb dX5_passes_27 (by decide) ?_
    refine lv_istore (lv' := [(5, .int ((0 : Int32))), (4, .int x426), (0, .ref (g b)), (1, .int p0), (2, .int p1), (3, .int p2)]) hx hb dX5_passes_28 hl (by decide) rfl (fun ls hl => ?_)
    obtain ⟨z670, hz670, hf⟩ := bd_i hf
    have hL30 : ∀ (n : Nat) (v667 : Int32) (u668 : TM) (z669 : TM), lf_X5_passes_30 fu  n v667 u668 = some z669 → ∀ (H : Heap) (locs : List Loc) (ls : Array Slot), va_P D vwCl (List.flatten [wM cT g b u668]) H → va_S A s.heap H locs → lv_has ls 11 [(0, .ref (g b)), (1, .int p0), (2, .int p1), (3, .int p2), (4, .int x426), (5, .int v667)] → (∀ (H : Heap) (locs : List Loc) (ls : Array Slot), va_P D vwCl (List.flatten [wM cT g b z669]) H → va_S A s.heap H locs → lv_has ls 11 [(0, .ref (g b)), (1, .int p0), (2, .int p1), (3, .int p2), (4, .int x426)] → W p l e rm_X5_passes s m args below meth c H locs 0 0 Q (F0 m 91 ls [])) → W p l e rm_X5_passes s m args below meth c H locs 0 0 Q (F0 m 30 ls []) := by
      refine lq_2_ind (F := lb_X5_passes_30 fu ) (fun rec ih v667 u668 z669 hf H locs ls hP hS hl kx => ?_)
      unfold lb_X5_passes_30 at hf
      refine lv_iload hx hb dX5_passes_30 (lv_at hl 5 rfl) ?_
      refine lv_aload_n hx hb dX5_passes_32 rfl (lv_at hl 0 rfl) ?_
      refine va_get (ci := 5) (v := .ref (g (b + 1))) (C := RX5) (T := TX5) (N := 12) hx hb hts iw_X5_passes_X5 hown hK hP 0 rfl rfl 0 (by decide) (hts (.fieldLink RX5 7 "BallastTrackModel" "s" "[I") (List.mem_of_getElem? (i := 1) rfl)) (fun _ h9 => h9) rfl dX5_passes_33 ?_
      refine lv_iconst (v := 0) hx hb dX5_passes_36 (by decide) ?_
      obtain ⟨hi671, hf⟩ := ix_i hf
      refine va_iald hx hb hK hP 1 0 rfl rfl hi671 dX5_passes_37 ?_
      refine lv_topi (fun x672 ex672 => ?_)
      replace hf := nm_i hf ex672
      refine lv_icmp_ge (tgt := 91) hx hb dX5_passes_38 (by decide) (fun c673 => ?_) (fun c673 => ?_)
      · replace hf := it_t hf c673
        obtain rfl := Option.some.inj hf
        exact kx _ _ _ hP hS (lv_sub hl [0, 1, 2, 3, 4] rfl)
      · replace hf := it_f hf c673
        refine lv_aload_n hx hb dX5_passes_41 rfl (lv_at hl 0 rfl) ?_
        refine lv_iload hx hb dX5_passes_42 (lv_at hl 5 rfl) ?_
        obtain ⟨o674, ho674, hf⟩ := bd_i hf
        refine cl_i [0] [] [wM cT g b u668] hP (va_D_adr hD rfl) hA hS (va_runV (As := [.int v667]) (rest := []) ⟨hx, hb, hml, hown, hts⟩ (c_X5_hangs l D cT g b fu u668 v667 o674 ho674 _) (cwV 1 hts gX5_passes_X5_hangs rfl rfl rfl (by decide +kernel) ⟨Nat.le_of_ble_eq_true rfl, Nat.le_of_ble_eq_true rfl⟩) ⟨PRE_blind, va_recv hK hP (ci := 5) (q0 := 0) rfl rfl, PRE_ok [0] (by decide) hP (va_D_adr hD rfl) hA hS hK hN hZ⟩ rfl rfl hl.1 rfl (lv_room (Nat.le_of_ble_eq_true rfl)) dX5_passes_44 ⟨Nat.le_of_ble_eq_true rfl, Nat.le_of_ble_eq_true rfl⟩) rfl 1 rfl (by decide) (by decide) (fun H locs hP hS => ?_)
        obtain ⟨K85_688, eK85_688, hf⟩ := jn_i hf
        have hK85_688 : ∀ (u686 : TM) (H : Heap) (locs : List Loc) (ls : Array Slot), K85_688 u686 = some z669 → va_P D vwCl (List.flatten [wM cT g b u686]) H → va_S A s.heap H locs → lv_has ls 11 [(0, .ref (g b)), (1, .int p0), (2, .int p1), (3, .int p2), (4, .int x426), (5, .int v667)] → W p l e rm_X5_passes s m args below meth c H locs 0 0 Q (F0 m 85 ls []) := by
          intro u686 H locs ls hf hP hS hl
          rw [eK85_688] at hf
          obtain ⟨x689, ex689⟩ : ∃ z : Int32, z = v667 + (1 : Int32) := ⟨_, rfl⟩
          replace hf := nm_i hf ex689
          refine lv_iinc (v := x689) (lv' := [(5, .int x689), (0, .ref (g b)), (1, .int p0), (2, .int p1), (3, .int p2), (4, .int x426)]) hx hb dX5_passes_85 hl (k := 5) rfl (by rw [ex689]; rfl) (by decide) rfl (fun ls hl => ?_)
          refine lv_goto (tgt := 30) hx hb dX5_passes_88 (by decide) ?_
          exact ih _ _ _ hf _ _ _ hP hS (lv_sub hl [1, 2, 3, 4, 5, 0] rfl) kx
        clear eK85_688
        refine lv_if_eq (tgt := 85) hx hb dX5_passes_47 (by decide) (fun c690 => ?_) (fun c690 => ?_)
        · replace hf := it_t hf c690
          exact hK85_688 _ _ _ _ hf hP hS (lv_sub hl [0, 1, 2, 3, 4, 5] rfl)
        · replace hf := it_f hf c690
          refine lv_aload_n hx hb dX5_passes_50 rfl (lv_at hl 0 rfl) ?_
          refine va_get (ci := 5) (v := .ref (g (b + 1))) (C := RX5) (T := TX5) (N := 12) hx hb hts iw_X5_passes_X5 hown hK hP 0 rfl rfl 0 (by decide) (hts (.fieldLink RX5 7 "BallastTrackModel" "s" "[I") (List.mem_of_getElem? (i := 1) rfl)) (fun _ h9 => h9) rfl dX5_passes_51 ?_
          refine lv_bipush (v := 101) hx hb dX5_passes_54 (by decide) ?_
          refine lv_iload hx hb dX5_passes_56 (lv_at hl 5 rfl) ?_
          refine lv_iadd hx hb dX5_passes_58 ?_
          refine lv_topi (fun x691 ex691 => ?_)
          replace hf := nm_i hf ex691
          refine lv_bipush (v := 100) hx hb dX5_passes_59 (by decide) ?_
          refine lv_aload_n hx hb dX5_passes_61 rfl (lv_at hl 0 rfl) ?_
          refine va_get (ci := 5) (v := .ref (g (b + 1))) (C := RX5) (T := TX5) (N := 12) hx hb hts iw_X5_passes_X5 hown hK hP 0 rfl rfl 0 (by decide) (hts (.fieldLink RX5 7 "BallastTrackModel" "s" "[I") (List.mem_of_getElem? (i := 1) rfl)) (fun _ h9 => h9) rfl dX5_passes_62 ?_
          refine lv_bipush (v := 101) hx hb dX5_passes_65 (by decide) ?_
          refine lv_iload hx hb dX5_passes_67 (lv_at hl 5 rfl) ?_
          refine lv_iadd hx hb dX5_passes_69 ?_
          refine lv_topi (fun x692 ex692 => ?_)
          replace hf := nm_i hf ex692
          obtain ⟨hi693, hf⟩ := ix_i hf
          refine va_iald hx hb hK hP 1 0 rfl rfl hi693 dX5_passes_70 ?_
          refine lv_topi (fun x694 ex694 => ?_)
          replace hf := nm_i hf ex694
          refine lv_iconst (v := 1) hx hb dX5_passes_71 (by decide) ?_
          refine lv_iadd hx hb dX5_passes_72 ?_
          refine lv_topi (fun x695 ex695 => ?_)
          replace hf := nm_i hf ex695
          obtain ⟨o696, ho696, hf⟩ := bd_i hf
          refine cl_i [] [0] [wM cT g b u668] hP (va_D_adr hD rfl) hA hS (va_runS (As := [.int ((100 : Int32)), .int x695]) (rest := [.int x691, .ref (g (b + 1))]) ⟨hx, hb, hml, hown, hts⟩ (c_X5_lesser l D cT g  fu  ((100 : Int32)) x695 o696 ho696 _) (va_cwS 2 hts gX5_passes_X5_lesser rfl rfl rfl (by decide +kernel) ⟨Nat.le_of_ble_eq_true rfl, Nat.le_of_ble_eq_true rfl⟩) ⟨PRE_blind, PRE_ok [] (by decide) hP (va_D_adr hD rfl) hA hS hK hN hZ⟩ rfl rfl hl.1 rfl (lv_room (Nat.le_of_ble_eq_true rfl)) dX5_passes_73 ⟨Nat.le_of_ble_eq_true rfl, Nat.le_of_ble_eq_true rfl⟩) rfl 1 rfl (by decide) (by decide) (fun H locs hP hS => ?_)
          obtain ⟨hi697, hf⟩ := ix_i hf
          refine va_iast hx hb hK hP (va_D_adr hD rfl) hS 1 0 rfl rfl hi697 dX5_passes_76 (fun H locs hP _ hS => ?_)
          obtain ⟨u698, eu698⟩ : ∃ z : TM, z = M_ss_ u668 (upd (M_ss u668) x691.toNatClampNeg o696) := ⟨_, rfl⟩
          replace hf := nm_i hf eu698
          have hP : va_P D vwCl (List.flatten [wM cT g b u698]) H := by rw [eu698]; exact hP
          refine lv_aload_n hx hb dX5_passes_77 rfl (lv_at hl 0 rfl) ?_
          refine va_get (ci := 5) (v := .ref (g (b + 7))) (C := RX5) (T := TX5) (N := 12) hx hb hts iw_X5_passes_X5 hown hK hP 0 rfl rfl 9 (by decide) (hts (.fieldLink RX5 29 "BallastTrackModel" "load" "[I") (List.mem_of_getElem? (i := 2) rfl)) (fun _ h9 => h9) rfl dX5_passes_78 ?_
          refine lv_iload hx hb dX5_passes_81 (lv_at hl 5 rfl) ?_
          refine lv_iconst (v := -1) hx hb dX5_passes_83 (by decide) ?_
          obtain ⟨hi699, hf⟩ := ix_i hf
          refine va_iast hx hb hK hP (va_D_adr hD rfl) hS 7 0 rfl rfl hi699 dX5_passes_84 (fun H locs hP _ hS => ?_)
          obtain ⟨u700, eu700⟩ : ∃ z : TM, z = M_lo_ u698 (upd (M_lo u698) v667.toNatClampNeg ((-1 : Int32))) := ⟨_, rfl⟩
          replace hf := nm_i hf eu700
          have hP : va_P D vwCl (List.flatten [wM cT g b u700]) H := by rw [eu700]; exact hP
          exact hK85_688 _ _ _ _ hf hP hS (lv_sub hl [0, 1, 2, 3, 4, 5] rfl)
    refine hL30 fu _ _ _ hz670 _ _ _ hP hS (lv_sub hl [2, 3, 4, 5, 1, 0] rfl) (fun H locs ls hP hS hl => ?_)
    refine lv_iconst (v := 0) hx hb dX5_passes_91 (by decide) ?_
    refine lv_istore (lv' := [(5, .int ((0 : Int32))), (0, .ref (g b)), (1, .int p0), (2, .int p1), (3, .int p2), (4, .int x426)]) hx hb dX5_passes_92 hl (by decide) rfl (fun ls hl => ?_)
    obtain ⟨z838, hz838, hf⟩ := bd_i hf
    have hL94 : ∀ (n : Nat) (v835 : Int32) (u836 : TM) (z837 : TM), lf_X5_passes_94 fu p0 p1 x426 n v835 u836 = some z837 → ∀ (H : Heap) (locs : List Loc) (ls : Array Slot), va_P D vwCl (List.flatten [wM cT g b u836]) H → va_S A s.heap H locs → lv_has ls 11 [(0, .ref (g b)), (1, .int p0), (2, .int p1), (3, .int p2), (4, .int x426), (5, .int v835)] → (∀ (H : Heap) (locs : List Loc) (ls : Array Slot), va_P D vwCl (List.flatten [wM cT g b z837]) H → va_S A s.heap H locs → lv_has ls 11 [(0, .ref (g b)), (1, .int p0), (2, .int p1), (3, .int p2)] → W p l e rm_X5_passes s m args below meth c H locs 0 0 Q (F0 m 238 ls [])) → W p l e rm_X5_passes s m args below meth c H locs 0 0 Q (F0 m 94 ls []) := by
      refine lq_2_ind (F := lb_X5_passes_94 fu p0 p1 x426) (fun rec ih v835 u836 z837 hf H locs ls hP hS hl kx => ?_)
      unfold lb_X5_passes_94 at hf
      refine lv_iload hx hb dX5_passes_94 (lv_at hl 5 rfl) ?_
      refine lv_aload_n hx hb dX5_passes_96 rfl (lv_at hl 0 rfl) ?_
      refine va_get (ci := 5) (v := .ref (g (b + 1))) (C := RX5) (T := TX5) (N := 12) hx hb hts iw_X5_passes_X5 hown hK hP 0 rfl rfl 0 (by decide) (hts (.fieldLink RX5 7 "BallastTrackModel" "s" "[I") (List.mem_of_getElem? (i := 1) rfl)) (fun _ h9 => h9) rfl dX5_passes_97 ?_
      refine lv_iconst (v := 0) hx hb dX5_passes_100 (by decide) ?_
      obtain ⟨hi839, hf⟩ := ix_i hf
      refine va_iald hx hb hK hP 1 0 rfl rfl hi839 dX5_passes_101 ?_
      refine lv_topi (fun x840 ex840 => ?_)
      replace hf := nm_i hf ex840
      refine lv_icmp_ge (tgt := 238) hx hb dX5_passes_102 (by decide) (fun c841 => ?_) (fun c841 => ?_)
      · replace hf := it_t hf c841
        obtain rfl := Option.some.inj hf
        exact kx _ _ _ hP hS (lv_sub hl [0, 1, 2, 3] rfl)
      · replace hf := it_f hf c841
        refine lv_aload_n hx hb dX5_passes_105 rfl (lv_at hl 0 rfl) ?_
        refine va_get (ci := 5) (v := .ref (g (b + 7))) (C := RX5) (T := TX5) (N := 12) hx hb hts iw_X5_passes_X5 hown hK hP 0 rfl rfl 9 (by decide) (hts (.fieldLink RX5 29 "BallastTrackModel" "load" "[I") (List.mem_of_getElem? (i := 2) rfl)) (fun _ h9 => h9) rfl dX5_passes_106 ?_
        refine lv_iload hx hb dX5_passes_109 (lv_at hl 5 rfl) ?_
        obtain ⟨hi842, hf⟩ := ix_i hf
        refine va_iald hx hb hK hP 7 0 rfl rfl hi842 dX5_passes_111 ?_
        refine lv_topi (fun x843 ex843 => ?_)
        replace hf := nm_i hf ex843
        obtain ⟨K232_908, eK232_908, hf⟩ := jn_i hf
        have hK232_908 : ∀ (u906 : TM) (H : Heap) (locs : List Loc) (ls : Array Slot), K232_908 u906 = some z837 → va_P D vwCl (List.flatten [wM cT g b u906]) H → va_S A s.heap H locs → lv_has ls 11 [(0, .ref (g b)), (1, .int p0), (2, .int p1), (3, .int p2), (4, .int x426), (5, .int v835)] → W p l e rm_X5_passes s m args below meth c H locs 0 0 Q (F0 m 232 ls []) := by
          intro u906 H locs ls hf hP hS hl
          rw [eK232_908] at hf
          obtain ⟨x909, ex909⟩ : ∃ z : Int32, z = v835 + (1 : Int32) := ⟨_, rfl⟩
          replace hf := nm_i hf ex909
          refine lv_iinc (v := x909) (lv' := [(5, .int x909), (0, .ref (g b)), (1, .int p0), (2, .int p1), (3, .int p2), (4, .int x426)]) hx hb dX5_passes_232 hl (k := 5) rfl (by rw [ex909]; rfl) (by decide) rfl (fun ls hl => ?_)
          refine lv_goto (tgt := 94) hx hb dX5_passes_235 (by decide) ?_
          exact ih _ _ _ hf _ _ _ hP hS (lv_sub hl [1, 2, 3, 4, 5, 0] rfl) kx
        clear eK232_908
        refine lv_if_lt (tgt := 232) hx hb dX5_passes_112 (by decide) (fun c910 => ?_) (fun c910 => ?_)
        · replace hf := it_t hf c910
          exact hK232_908 _ _ _ _ hf hP hS (lv_sub hl [0, 1, 2, 3, 4, 5] rfl)
        · replace hf := it_f hf c910
          refine lv_iload_n hx hb dX5_passes_115 rfl (lv_at hl 1 rfl) ?_
          refine lv_i2l (v := p0.toInt64) hx hb dX5_passes_116 rfl ?_
          refine lv_topl (fun y911 ey911 => ?_)
          replace hf := nm_i hf ey911
          refine lv_iload_n hx hb dX5_passes_117 rfl (lv_at hl 2 rfl) ?_
          refine lv_i2l (v := p1.toInt64) hx hb dX5_passes_118 rfl ?_
          refine lv_topl (fun y912 ey912 => ?_)
          replace hf := nm_i hf ey912
          refine lv_lmul hx hb dX5_passes_119 ?_
          refine lv_topl (fun y913 ey913 => ?_)
          replace hf := nm_i hf ey913
          refine lv_aload_n hx hb dX5_passes_120 rfl (lv_at hl 0 rfl) ?_
          refine va_get (ci := 5) (v := .ref (g (b + 7))) (C := RX5) (T := TX5) (N := 12) hx hb hts iw_X5_passes_X5 hown hK hP 0 rfl rfl 9 (by decide) (hts (.fieldLink RX5 29 "BallastTrackModel" "load" "[I") (List.mem_of_getElem? (i := 2) rfl)) (fun _ h9 => h9) rfl dX5_passes_121 ?_
          refine lv_iload hx hb dX5_passes_124 (lv_at hl 5 rfl) ?_
          obtain ⟨hi914, hf⟩ := ix_i hf
          refine va_iald hx hb hK hP 7 0 rfl rfl hi914 dX5_passes_126 ?_
          refine lv_topi (fun x915 ex915 => ?_)
          replace hf := nm_i hf ex915
          refine lv_i2l (v := x915.toInt64) hx hb dX5_passes_127 rfl ?_
          refine lv_topl (fun y916 ey916 => ?_)
          replace hf := nm_i hf ey916
          refine lv_lmul hx hb dX5_passes_128 ?_
          refine lv_topl (fun y917 ey917 => ?_)
          replace hf := nm_i hf ey917
          refine lv_bipush (v := 100) hx hb dX5_passes_129 (by decide) ?_
          refine lv_aload_n hx hb dX5_passes_131 rfl (lv_at hl 0 rfl) ?_
          refine va_get (ci := 5) (v := .ref (g (b + 1))) (C := RX5) (T := TX5) (N := 12) hx hb hts iw_X5_passes_X5 hown hK hP 0 rfl rfl 0 (by decide) (hts (.fieldLink RX5 7 "BallastTrackModel" "s" "[I") (List.mem_of_getElem? (i := 1) rfl)) (fun _ h9 => h9) rfl dX5_passes_132 ?_
          refine lv_bipush (v := 101) hx hb dX5_passes_135 (by decide) ?_
          refine lv_iload hx hb dX5_passes_137 (lv_at hl 5 rfl) ?_
          refine lv_iadd hx hb dX5_passes_139 ?_
          refine lv_topi (fun x918 ex918 => ?_)
          replace hf := nm_i hf ex918
          obtain ⟨hi919, hf⟩ := ix_i hf
          refine va_iald hx hb hK hP 1 0 rfl rfl hi919 dX5_passes_140 ?_
          refine lv_topi (fun x920 ex920 => ?_)
          replace hf := nm_i hf ex920
          refine lv_iadd hx hb dX5_passes_141 ?_
          refine lv_topi (fun x921 ex921 => ?_)
          replace hf := nm_i hf ex921
          refine lv_i2l (v := x921.toInt64) hx hb dX5_passes_142 rfl ?_
          refine lv_topl (fun y922 ey922 => ?_)
          replace hf := nm_i hf ey922
          refine lv_lmul hx hb dX5_passes_143 ?_
          refine lv_topl (fun y923 ey923 => ?_)
          replace hf := nm_i hf ey923
          refine lv_iload hx hb dX5_passes_144 (lv_at hl 4 rfl) ?_
          refine lv_i2l (v := x426.toInt64) hx hb dX5_passes_146 rfl ?_
          refine lv_topl (fun y924 ey924 => ?_)
          replace hf := nm_i hf ey924
          refine lv_lmul hx hb dX5_passes_147 ?_
          refine lv_topl (fun y925 ey925 => ?_)
          replace hf := nm_i hf ey925
          refine lv_ldc2 (v := 4000000) hx hb hown (hts (.constantLong RX5 139 (4000000)) (List.mem_of_getElem? (i := 3) rfl)) dX5_passes_148 ?_
          refine lv_ldiv hx hb dX5_passes_151 (by decide) ?_
          refine lv_topl (fun y926 ey926 => ?_)
          replace hf := nm_i hf ey926
          refine lv_lstore (lv' := [(6, .long y926), (0, .ref (g b)), (1, .int p0), (2, .int p1), (3, .int p2), (4, .int x426), (5, .int v835)]) hx hb dX5_passes_152 hl (by decide) rfl (fun ls hl => ?_)
          refine lv_aload_n hx hb dX5_passes_154 rfl (lv_at hl 1 rfl) ?_
          refine va_get (ci := 5) (v := .ref (g (b + 1))) (C := RX5) (T := TX5) (N := 12) hx hb hts iw_X5_passes_X5 hown hK hP 0 rfl rfl 0 (by decide) (hts (.fieldLink RX5 7 "BallastTrackModel" "s" "[I") (List.mem_of_getElem? (i := 1) rfl)) (fun _ h9 => h9) rfl dX5_passes_155 ?_
          refine lv_bipush (v := 41) hx hb dX5_passes_158 (by decide) ?_
          refine lv_iload hx hb dX5_passes_160 (lv_at hl 6 rfl) ?_
          refine lv_iadd hx hb dX5_passes_162 ?_
          refine lv_topi (fun x927 ex927 => ?_)
          replace hf := nm_i hf ex927
          obtain ⟨hi928, hf⟩ := ix_i hf
          refine va_iald hx hb hK hP 1 0 rfl rfl hi928 dX5_passes_163 ?_
          refine lv_topi (fun x929 ex929 => ?_)
          replace hf := nm_i hf ex929
          refine lv_i2l (v := x929.toInt64) hx hb dX5_passes_164 rfl ?_
          refine lv_topl (fun y930 ey930 => ?_)
          replace hf := nm_i hf ey930
          refine lv_ldc2 (v := -9999) hx hb hown (hts (.constantLong RX5 141 (-9999)) (List.mem_of_getElem? (i := 4) rfl)) dX5_passes_165 ?_
          refine lv_lsub hx hb dX5_passes_168 ?_
          refine lv_topl (fun y931 ey931 => ?_)
          replace hf := nm_i hf ey931
          refine lv_lstore (lv' := [(8, .long y931), (6, .long y926), (0, .ref (g b)), (1, .int p0), (2, .int p1), (3, .int p2), (4, .int x426), (5, .int v835)]) hx hb dX5_passes_169 hl (by decide) rfl (fun ls hl => ?_)
          refine lv_lload hx hb dX5_passes_171 (lv_at hl 1 rfl) ?_
          refine lv_lload hx hb dX5_passes_173 (lv_at hl 0 rfl) ?_
          refine W.lcmp hx hb dX5_passes_175 ?_
          refine lv_topi (fun x932 ex932 => ?_)
          replace hf := nm_i hf ex932
          obtain ⟨K186_953, eK186_953, hf⟩ := jn_i hf
          have hK186_953 : ∀ (x934 : Int64) (H : Heap) (locs : List Loc) (ls : Array Slot), K186_953 x934 = some z837 → va_P D vwCl (List.flatten [wM cT g b u836]) H → va_S A s.heap H locs → lv_has ls 11 [(0, .ref (g b)), (1, .int p0), (2, .int p1), (3, .int p2), (4, .int x426), (5, .int v835)] → W p l e rm_X5_passes s m args below meth c H locs 0 0 Q (F0 m 186 ls [.long x934]) := by
            intro x934 H locs ls hf hP hS hl
            rw [eK186_953] at hf
            refine lv_l2i (v := x934.toInt32) hx hb dX5_passes_186 rfl ?_
            refine lv_topi (fun x954 ex954 => ?_)
            replace hf := nm_i hf ex954
            refine lv_istore (lv' := [(10, .int x954), (0, .ref (g b)), (1, .int p0), (2, .int p1), (3, .int p2), (4, .int x426), (5, .int v835)]) hx hb dX5_passes_187 hl (by decide) rfl (fun ls hl => ?_)
            refine lv_aload_n hx hb dX5_passes_189 rfl (lv_at hl 1 rfl) ?_
            refine va_get (ci := 5) (v := .ref (g (b + 1))) (C := RX5) (T := TX5) (N := 12) hx hb hts iw_X5_passes_X5 hown hK hP 0 rfl rfl 0 (by decide) (hts (.fieldLink RX5 7 "BallastTrackModel" "s" "[I") (List.mem_of_getElem? (i := 1) rfl)) (fun _ h9 => h9) rfl dX5_passes_190 ?_
            refine lv_bipush (v := 41) hx hb dX5_passes_193 (by decide) ?_
            refine lv_iload hx hb dX5_passes_195 (lv_at hl 6 rfl) ?_
            refine lv_iadd hx hb dX5_passes_197 ?_
            refine lv_topi (fun x955 ex955 => ?_)
            replace hf := nm_i hf ex955
            refine lv_dup2_11 hx hb dX5_passes_198 rfl rfl ?_
            obtain ⟨hi956, hf⟩ := ix_i hf
            refine va_iald hx hb hK hP 1 0 rfl rfl hi956 dX5_passes_199 ?_
            refine lv_topi (fun x957 ex957 => ?_)
            replace hf := nm_i hf ex957
            refine lv_iload hx hb dX5_passes_200 (lv_at hl 0 rfl) ?_
            refine lv_isub hx hb dX5_passes_202 ?_
            refine lv_topi (fun x958 ex958 => ?_)
            replace hf := nm_i hf ex958
            obtain ⟨hi959, hf⟩ := ix_i hf
            refine va_iast hx hb hK hP (va_D_adr hD rfl) hS 1 0 rfl rfl hi959 dX5_passes_203 (fun H locs hP _ hS => ?_)
            obtain ⟨u960, eu960⟩ : ∃ z : TM, z = M_ss_ u836 (upd (M_ss u836) x955.toNatClampNeg x958) := ⟨_, rfl⟩
            replace hf := nm_i hf eu960
            have hP : va_P D vwCl (List.flatten [wM cT g b u960]) H := by rw [eu960]; exact hP
            refine lv_aload_n hx hb dX5_passes_204 rfl (lv_at hl 1 rfl) ?_
            refine va_get (ci := 5) (v := .ref (g (b + 1))) (C := RX5) (T := TX5) (N := 12) hx hb hts iw_X5_passes_X5 hown hK hP 0 rfl rfl 0 (by decide) (hts (.fieldLink RX5 7 "BallastTrackModel" "s" "[I") (List.mem_of_getElem? (i := 1) rfl)) (fun _ h9 => h9) rfl dX5_passes_205 ?_
            refine lv_sipush (v := 161) hx hb dX5_passes_208 (by decide) ?_
            refine lv_iload hx hb dX5_passes_211 (lv_at hl 6 rfl) ?_
            refine lv_iadd hx hb dX5_passes_213 ?_
            refine lv_topi (fun x961 ex961 => ?_)
            replace hf := nm_i hf ex961
            refine lv_dup2_11 hx hb dX5_passes_214 rfl rfl ?_
            obtain ⟨hi962, hf⟩ := ix_i hf
            refine va_iald hx hb hK hP 1 0 rfl rfl hi962 dX5_passes_215 ?_
            refine lv_topi (fun x963 ex963 => ?_)
            replace hf := nm_i hf ex963
            refine lv_iload hx hb dX5_passes_216 (lv_at hl 0 rfl) ?_
            refine lv_iadd hx hb dX5_passes_218 ?_
            refine lv_topi (fun x964 ex964 => ?_)
            replace hf := nm_i hf ex964
            obtain ⟨hi965, hf⟩ := ix_i hf
            refine va_iast hx hb hK hP (va_D_adr hD rfl) hS 1 0 rfl rfl hi965 dX5_passes_219 (fun H locs hP _ hS => ?_)
            obtain ⟨u966, eu966⟩ : ∃ z : TM, z = M_ss_ u960 (upd (M_ss u960) x961.toNatClampNeg x964) := ⟨_, rfl⟩
            replace hf := nm_i hf eu966
            have hP : va_P D vwCl (List.flatten [wM cT g b u966]) H := by rw [eu966]; exact hP
            refine lv_aload_n hx hb dX5_passes_220 rfl (lv_at hl 1 rfl) ?_
            refine va_get (ci := 5) (v := .ref (g (b + 1))) (C := RX5) (T := TX5) (N := 12) hx hb hts iw_X5_passes_X5 hown hK hP 0 rfl rfl 0 (by decide) (hts (.fieldLink RX5 7 "BallastTrackModel" "s" "[I") (List.mem_of_getElem? (i := 1) rfl)) (fun _ h9 => h9) rfl dX5_passes_221 ?_
            refine lv_bipush (v := 9) hx hb dX5_passes_224 (by decide) ?_
            refine lv_dup2_11 hx hb dX5_passes_226 rfl rfl ?_
            obtain ⟨hi967, hf⟩ := ix_i hf
            refine va_iald hx hb hK hP 1 0 rfl rfl hi967 dX5_passes_227 ?_
            refine lv_topi (fun x968 ex968 => ?_)
            replace hf := nm_i hf ex968
            refine lv_iload hx hb dX5_passes_228 (lv_at hl 0 rfl) ?_
            refine lv_iadd hx hb dX5_passes_230 ?_
            refine lv_topi (fun x969 ex969 => ?_)
            replace hf := nm_i hf ex969
            obtain ⟨hi970, hf⟩ := ix_i hf
            refine va_iast hx hb hK hP (va_D_adr hD rfl) hS 1 0 rfl rfl hi970 dX5_passes_231 (fun H locs hP _ hS => ?_)
            obtain ⟨u971, eu971⟩ : ∃ z : TM, z = M_ss_ u966 (upd (M_ss u966) ((9 : Int32)).toNatClampNeg x969) := ⟨_, rfl⟩
            replace hf := nm_i hf eu971
            have hP : va_P D vwCl (List.flatten [wM cT g b u971]) H := by rw [eu971]; exact hP
            exact hK232_908 _ _ _ _ hf hP hS (lv_sub hl [1, 2, 3, 4, 5, 6] rfl)
          clear eK186_953
          refine lv_if_ge (tgt := 184) hx hb dX5_passes_176 (by decide) (fun c972 => ?_) (fun c972 => ?_)
          · replace hf := it_t hf c972
            refine lv_lload hx hb dX5_passes_184 (lv_at hl 0 rfl) ?_
            exact hK186_953 _ _ _ _ hf hP hS (lv_sub hl [2, 3, 4, 5, 6, 7] rfl)
          · replace hf := it_f hf c972
            refine lv_lload hx hb dX5_passes_179 (lv_at hl 1 rfl) ?_
            refine lv_goto (tgt := 186) hx hb dX5_passes_181 (by decide) ?_
            exact hK186_953 _ _ _ _ hf hP hS (lv_sub hl [2, 3, 4, 5, 6, 7] rfl)
    refine hL94 fu _ _ _ hz838 _ _ _ hP hS (lv_sub hl [1, 2, 3, 4, 5, 0] rfl) (fun H locs ls hP hS hl => ?_)
    refine lv_aload_n hx hb dX5_passes_238 rfl (lv_at hl 0 rfl) ?_
    refine va_get (ci := 5) (v := .ref (g (b + 1))) (C := RX5) (T := TX5) (N := 12) hx hb hts iw_X5_passes_X5 hown hK hP 0 rfl rfl 0 (by decide) (hts (.fieldLink RX5 7 "BallastTrackModel" "s" "[I") (List.mem_of_getElem? (i := 1) rfl)) (fun _ h9 => h9) rfl dX5_passes_239 ?_
    refine lv_bipush (v := 11) hx hb dX5_passes_242 (by decide) ?_
    refine lv_dup2_11 hx hb dX5_passes_244 rfl rfl ?_
    obtain ⟨hi973, hf⟩ := ix_i hf
    refine va_iald hx hb hK hP 1 0 rfl rfl hi973 dX5_passes_245 ?_
    refine lv_topi (fun x974 ex974 => ?_)
    replace hf := nm_i hf ex974
    refine lv_iload_n hx hb dX5_passes_246 rfl (lv_at hl 3 rfl) ?_
    obtain ⟨K265_993, eK265_993, hf⟩ := jn_i hf
    have hK265_993 : ∀ (x977 : Int32) (H : Heap) (locs : List Loc) (ls : Array Slot), K265_993 x977 = some o → va_P D vwCl (List.flatten [wM cT g b z838]) H → va_S A s.heap H locs → lv_has ls 11 [(0, .ref (g b)), (1, .int p0), (2, .int p1)] → W p l e rm_X5_passes s m args below meth c H locs 0 0 Q (F0 m 265 ls [.int x977, .int x974, .int ((11 : Int32)), .ref (g (b + 1))]) := by
      intro x977 H locs ls hf hP hS hl
      rw [eK265_993] at hf
      refine lv_iadd hx hb dX5_passes_265 ?_
      refine lv_topi (fun x994 ex994 => ?_)
      replace hf := nm_i hf ex994
      obtain ⟨hi995, hf⟩ := ix_i hf
      refine va_iast hx hb hK hP (va_D_adr hD rfl) hS 1 0 rfl rfl hi995 dX5_passes_266 (fun H locs hP _ hS => ?_)
      obtain ⟨u996, eu996⟩ : ∃ z : TM, z = M_ss_ z838 (upd (M_ss z838) ((11 : Int32)).toNatClampNeg x994) := ⟨_, rfl⟩
      replace hf := nm_i hf eu996
      have hP : va_P D vwCl (List.flatten [wM cT g b u996]) H := by rw [eu996]; exact hP
      refine lv_aload_n hx hb dX5_passes_267 rfl (lv_at hl 0 rfl) ?_
      refine va_get (ci := 5) (v := .ref (g (b + 1))) (C := RX5) (T := TX5) (N := 12) hx hb hts iw_X5_passes_X5 hown hK hP 0 rfl rfl 0 (by decide) (hts (.fieldLink RX5 7 "BallastTrackModel" "s" "[I") (List.mem_of_getElem? (i := 1) rfl)) (fun _ h9 => h9) rfl dX5_passes_268 ?_
      refine lv_bipush (v := 13) hx hb dX5_passes_271 (by decide) ?_
      refine lv_dup2_11 hx hb dX5_passes_273 rfl rfl ?_
      obtain ⟨hi997, hf⟩ := ix_i hf
      refine va_iald hx hb hK hP 1 0 rfl rfl hi997 dX5_passes_274 ?_
      refine lv_topi (fun x998 ex998 => ?_)
      replace hf := nm_i hf ex998
      refine lv_iconst (v := 1) hx hb dX5_passes_275 (by decide) ?_
      refine lv_iadd hx hb dX5_passes_276 ?_
      refine lv_topi (fun x999 ex999 => ?_)
      replace hf := nm_i hf ex999
      obtain ⟨hi1000, hf⟩ := ix_i hf
      refine va_iast hx hb hK hP (va_D_adr hD rfl) hS 1 0 rfl rfl hi1000 dX5_passes_277 (fun H locs hP _ hS => ?_)
      obtain ⟨u1001, eu1001⟩ : ∃ z : TM, z = M_ss_ u996 (upd (M_ss u996) ((13 : Int32)).toNatClampNeg x999) := ⟨_, rfl⟩
      replace hf := nm_i hf eu1001
      have hP : va_P D vwCl (List.flatten [wM cT g b u1001]) H := by rw [eu1001]; exact hP
      refine lv_aload_n hx hb dX5_passes_278 rfl (lv_at hl 0 rfl) ?_
      refine va_get (ci := 5) (v := .ref (g (b + 1))) (C := RX5) (T := TX5) (N := 12) hx hb hts iw_X5_passes_X5 hown hK hP 0 rfl rfl 0 (by decide) (hts (.fieldLink RX5 7 "BallastTrackModel" "s" "[I") (List.mem_of_getElem? (i := 1) rfl)) (fun _ h9 => h9) rfl dX5_passes_279 ?_
      refine lv_bipush (v := 14) hx hb dX5_passes_282 (by decide) ?_
      refine lv_dup2_11 hx hb dX5_passes_284 rfl rfl ?_
      obtain ⟨hi1002, hf⟩ := ix_i hf
      refine va_iald hx hb hK hP 1 0 rfl rfl hi1002 dX5_passes_285 ?_
      refine lv_topi (fun x1003 ex1003 => ?_)
      replace hf := nm_i hf ex1003
      refine lv_iload_n hx hb dX5_passes_286 rfl (lv_at hl 1 rfl) ?_
      refine lv_iload_n hx hb dX5_passes_287 rfl (lv_at hl 2 rfl) ?_
      refine lv_imul hx hb dX5_passes_288 ?_
      refine lv_topi (fun x1004 ex1004 => ?_)
      replace hf := nm_i hf ex1004
      refine lv_iadd hx hb dX5_passes_289 ?_
      refine lv_topi (fun x1005 ex1005 => ?_)
      replace hf := nm_i hf ex1005
      obtain ⟨hi1006, hf⟩ := ix_i hf
      refine va_iast hx hb hK hP (va_D_adr hD rfl) hS 1 0 rfl rfl hi1006 dX5_passes_290 (fun H locs hP _ hS => ?_)
      obtain ⟨u1007, eu1007⟩ : ∃ z : TM, z = M_ss_ u1001 (upd (M_ss u1001) ((14 : Int32)).toNatClampNeg x1005) := ⟨_, rfl⟩
      replace hf := nm_i hf eu1007
      have hP : va_P D vwCl (List.flatten [wM cT g b u1007]) H := by rw [eu1007]; exact hP
      refine lv_aload_n hx hb dX5_passes_291 rfl (lv_at hl 0 rfl) ?_
      obtain ⟨o1008, ho1008, hf⟩ := bd_i hf
      refine cl_v [0] [] [wM cT g b o1008] hP (va_D_adr hD rfl) hA hS (va_runV (As := []) (rest := []) ⟨hx, hb, hml, hown, hts⟩ (c_X5_laysRail l D cT g b fu u1007  o1008 ho1008 _) (cwV 0 hts gX5_passes_X5_laysRail rfl rfl rfl (by decide +kernel) ⟨Nat.le_of_ble_eq_true rfl, Nat.le_of_ble_eq_true rfl⟩) ⟨PRE_blind, va_recv hK hP (ci := 5) (q0 := 0) rfl rfl, PRE_ok [0] (by decide) hP (va_D_adr hD rfl) hA hS hK hN hZ⟩ rfl rfl hl.1 rfl (lv_room (Nat.le_of_ble_eq_true rfl)) dX5_passes_292 ⟨Nat.le_of_ble_eq_true rfl, Nat.le_of_ble_eq_true rfl⟩) rfl 1 rfl (by decide) (by decide) (fun H locs hP hS => ?_)
      obtain rfl := Option.some.inj hf
      subst hQ
      exact en_v hx hb hr hP hS hlocks dX5_passes_295
    clear eK265_993
    refine lv_if_ne (tgt := 254) hx hb dX5_passes_247 (by decide) (fun c1009 => ?_) (fun c1009 => ?_)
    · replace hf := it_t hf c1009
      refine lv_iload_n hx hb dX5_passes_254 rfl (lv_at hl 3 rfl) ?_
      refine lv_iconst (v := 1) hx hb dX5_passes_255 (by decide) ?_
      refine lv_icmp_ne (tgt := 263) hx hb dX5_passes_256 (by decide) (fun c1010 => ?_) (fun c1010 => ?_)
      · replace hf := it_t hf c1010
        refine lv_bipush (v := 6) hx hb dX5_passes_263 (by decide) ?_
        exact hK265_993 _ _ _ _ hf hP hS (lv_sub hl [0, 1, 2] rfl)
      · replace hf := it_f hf (not_not_intro c1010)
        refine lv_iconst (v := 2) hx hb dX5_passes_259 (by decide) ?_
        refine lv_goto (tgt := 265) hx hb dX5_passes_260 (by decide) ?_
        exact hK265_993 _ _ _ _ hf hP hS (lv_sub hl [0, 1, 2] rfl)
    · replace hf := it_f hf (not_not_intro c1009)
      refine lv_iconst (v := 0) hx hb dX5_passes_250 (by decide) ?_
      refine lv_goto (tgt := 265) hx hb dX5_passes_251 (by decide) ?_
      exact hK265_993 _ _ _ _ hf hP hS (lv_sub hl [0, 1, 2] rfl)
  clear eK25_635
  refine lv_if_ne (tgt := 13) hx hb dX5_passes_5 (by decide) (fun c1011 => ?_) (fun c1011 => ?_)
  · replace hf := it_t hf c1011
    refine lv_iload_n hx hb dX5_passes_13 rfl (lv_at hl 3 rfl) ?_
    refine lv_iconst (v := 1) hx hb dX5_passes_14 (by decide) ?_
    refine lv_icmp_ne (tgt := 23) hx hb dX5_passes_15 (by decide) (fun c1012 => ?_) (fun c1012 => ?_)
    · replace hf := it_t hf c1012
      refine lv_bipush (v := 40) hx hb dX5_passes_23 (by decide) ?_
      exact hK25_635 _ _ _ _ hf hP hS (lv_sub hl [0, 1, 2, 3] rfl)
    · replace hf := it_f hf (not_not_intro c1012)
      refine lv_bipush (v := 70) hx hb dX5_passes_18 (by decide) ?_
      refine lv_goto (tgt := 25) hx hb dX5_passes_20 (by decide) ?_
      exact hK25_635 _ _ _ _ hf hP hS (lv_sub hl [0, 1, 2, 3] rfl)
  · replace hf := it_f hf (not_not_intro c1011)
    refine lv_bipush (v := 100) hx hb dX5_passes_8 (by decide) ?_
    refine lv_goto (tgt := 25) hx hb dX5_passes_10 (by decide) ?_
    exact hK25_635 _ _ _ _ hf hP hS (lv_sub hl [0, 1, 2, 3] rfl)
def f_X5_isTrain (fu : Nat)  (p0 : Int32) (p1 : Int32) : Option (Bool) :=
bd (f_X5_in fu  p0 ((1 : Int32)) ((200 : Int32))) fun (o8 : Bool) =>
jn (some (false)
) fun K25_12 =>
if bI o8 = 0 then (
K25_12 
)
else (
bd (f_X5_in fu  p1 ((1 : Int32)) ((30 : Int32))) fun (o14 : Bool) =>
if bI o14 = 0 then (
K25_12 
)
else (
some (true)
)
)

abbrev rm_X5_isTrain : Room := { frames := 1, cells := 0, slots := 0, locals := 22 }
set_option maxHeartbeats 4000000 in
set_option maxRecDepth 100000 in
theorem c_X5_isTrain (l : Launch) (D : va_G) (cT : Nat → ClassId) (g : Nat → Nat) (fu : Nat)  (p0 : Int32) (p1 : Int32) (o : Bool) (hf : f_X5_isTrain fu  p0 p1 = some o) (sz : Nat) : Met l yX5_isTrain wsX5_isTrain rm_X5_isTrain (va_Pc [.int p0, .int p1] (PRE D cT sz (List.flatten []))) (QI D (bI o) (List.flatten []) (va_A (List.flatten []) sz)) 0 0 (va_A (List.flatten []) sz) := by
  refine Met.ofW (cc := cX5_isTrain) (maxL := 2) (ret := (some .boolean)) (by decide) rfl ?_
  intro p e s m args below meth c s₁ B0 hml hv
  obtain ⟨hav, hsz, hP, hK, hD, hN, hZ⟩ := hv
  have hx := B0.exec
  have hb := B0.bytes
  have hr := B0.returns
  have hts := atoms_spec (ws := wsX5_isTrain) B0.pre
  have hown : s.vm.findClass RX5 = some m.cls := findClass_of_methodNamed B0.named
  have hlocks := B0.notSynchronized
  subst hsz
  have hD := hD.self (sz := s.heap.size)
  have hA : ∀ q : Nat, s.heap.size ≤ q → va_A (List.flatten []) s.heap.size q := fun q h => Or.inr h
  generalize va_A (List.flatten []) s.heap.size = A at hD hZ hA ⊢
  have hS : va_S A s.heap s.heap [] := va_S.rf
  have hl := lv_entry ([.int p0, .int p1]) (n := 2) (Nat.le_of_ble_eq_true rfl)
  rw [hav]
  rw [lg_entry_eq]
  generalize (lg_sl ([.int p0, .int p1]) ++ List.replicate (2 - (lg_sl ([.int p0, .int p1])).length) Slot.unset).toArray = ls at hl ⊢
  have hl : lv_has ls 2 [(0, .int p0), (1, .int p1)] := hl
  rw [← hav]
  generalize hQ : MQ below _ _ _ _ _ _ = Q
  show W p l e rm_X5_isTrain s m args below meth c s.heap [] 0 0 Q (F0 m 0 ls [])
  unfold f_X5_isTrain at hf
  refine lv_iload_n hx hb dX5_isTrain_0 rfl (lv_at hl 0 rfl) ?_
  refine lv_iconst (v := 1) hx hb dX5_isTrain_1 (by decide) ?_
  refine lv_sipush (v := 200) hx hb dX5_isTrain_2 (by decide) ?_
  obtain ⟨o8, ho8, hf⟩ := bd_i hf
  refine cl_i [] [] [] hP (va_D_adr hD rfl) hA hS (va_runS (As := [.int p0, .int ((1 : Int32)), .int ((200 : Int32))]) (rest := []) ⟨hx, hb, hml, hown, hts⟩ (c_X5_in l D cT g  fu  p0 ((1 : Int32)) ((200 : Int32)) o8 ho8 _) (va_cwS 3 hts gX5_isTrain_X5_in rfl rfl rfl (by decide +kernel) ⟨Nat.le_of_ble_eq_true rfl, Nat.le_of_ble_eq_true rfl⟩) ⟨PRE_blind, PRE_ok [] (by decide) hP (va_D_adr hD rfl) hA hS hK hN hZ⟩ rfl rfl hl.1 rfl (lv_room (Nat.le_of_ble_eq_true rfl)) dX5_isTrain_5 ⟨Nat.le_of_ble_eq_true rfl, Nat.le_of_ble_eq_true rfl⟩) rfl 0 rfl (by decide) (by decide) (fun H locs hP hS => ?_)
  obtain ⟨K25_12, eK25_12, hf⟩ := jn_i hf
  have hK25_12 : ∀  (H : Heap) (locs : List Loc) (ls : Array Slot), K25_12  = some o → va_P D vwCl (List.flatten []) H → va_S A s.heap H locs → lv_has ls 2 [] → W p l e rm_X5_isTrain s m args below meth c H locs 0 0 Q (F0 m 25 ls []) := by
    intro  H locs ls hf hP hS hl
    rw [eK25_12] at hf
    refine lv_iconst (v := 0) hx hb dX5_isTrain_25 (by decide) ?_
    obtain rfl := Option.some.inj hf
    subst hQ
    exact en_z (v := false) hx hb hr hP hS hlocks dX5_isTrain_26
  clear eK25_12
  refine lv_if_eq (tgt := 25) hx hb dX5_isTrain_8 (by decide) (fun c13 => ?_) (fun c13 => ?_)
  · replace hf := it_t hf c13
    exact hK25_12  _ _ _ hf hP hS (lv_sub hl [] rfl)
  · replace hf := it_f hf c13
    refine lv_iload_n hx hb dX5_isTrain_11 rfl (lv_at hl 1 rfl) ?_
    refine lv_iconst (v := 1) hx hb dX5_isTrain_12 (by decide) ?_
    refine lv_bipush (v := 30) hx hb dX5_isTrain_13 (by decide) ?_
    obtain ⟨o14, ho14, hf⟩ := bd_i hf
    refine cl_i [] [] [] hP (va_D_adr hD rfl) hA hS (va_runS (As := [.int p1, .int ((1 : Int32)), .int ((30 : Int32))]) (rest := []) ⟨hx, hb, hml, hown, hts⟩ (c_X5_in l D cT g  fu  p1 ((1 : Int32)) ((30 : Int32)) o14 ho14 _) (va_cwS 3 hts gX5_isTrain_X5_in rfl rfl rfl (by decide +kernel) ⟨Nat.le_of_ble_eq_true rfl, Nat.le_of_ble_eq_true rfl⟩) ⟨PRE_blind, PRE_ok [] (by decide) hP (va_D_adr hD rfl) hA hS hK hN hZ⟩ rfl rfl hl.1 rfl (lv_room (Nat.le_of_ble_eq_true rfl)) dX5_isTrain_15 ⟨Nat.le_of_ble_eq_true rfl, Nat.le_of_ble_eq_true rfl⟩) rfl 0 rfl (by decide) (by decide) (fun H locs hP hS => ?_)
    refine lv_if_eq (tgt := 25) hx hb dX5_isTrain_18 (by decide) (fun c15 => ?_) (fun c15 => ?_)
    · replace hf := it_t hf c15
      exact hK25_12  _ _ _ hf hP hS (lv_sub hl [] rfl)
    · replace hf := it_f hf c15
      refine lv_iconst (v := 1) hx hb dX5_isTrain_21 (by decide) ?_
      refine lv_goto (tgt := 26) hx hb dX5_isTrain_22 (by decide) ?_
      obtain rfl := Option.some.inj hf
      subst hQ
      exact en_z (v := true) hx hb hr hP hS hlocks dX5_isTrain_26
def lb_X5_trains_47 (fu : Nat) (p0 : Int32) (p1 : Int32) (p2 : Int32) (rec : Int32 → Int32 → TM → Option (Int32 × TM)) (v37 : Int32) (v38 : Int32) (u39 : TM) : Option (Int32 × TM) :=
if p2 ≤ v38 then (
some (v38, u39)
)
else (
if (3 : Int32) ≤ v37 then (
some (v38, u39)
)
else (
bd (f_X5_passes fu u39 p0 p1 v37) fun (o44 : TM) =>
bd (f_X5_order fu o44 ) fun (o45 : Int32) =>
nm (v38 + (1 : Int32)) fun (x46 : Int32) =>
rec o45 x46 o44
)
)

def lf_X5_trains_47 (fu : Nat) (p0 : Int32) (p1 : Int32) (p2 : Int32) : Nat → Int32 → Int32 → TM → Option (Int32 × TM) := lq_3 (lb_X5_trains_47 fu p0 p1 p2)
def f_X5_trains (fu : Nat) (u_mo : TM) (p0 : Int32) (p1 : Int32) (p2 : Int32) : Option (Int32 × TM) :=
bd (f_X5_isTrain fu  p0 p1) fun (o21 : Bool) =>
if bI o21 = 0 then (
some ((-100001 : Int32), u_mo)
)
else (
bd (f_X5_in fu  p2 ((1 : Int32)) ((50 : Int32))) fun (o23 : Bool) =>
if ¬ bI o23 = 0 then (
bd (f_X5_laysRail fu u_mo ) fun (o25 : TM) =>
bd (f_X5_order fu o25 ) fun (o26 : Int32) =>
if ¬ o26 = (3 : Int32) then (
bd (f_X5_notes fu o25 ) fun (o28 : TM) =>
bd (lf_X5_trains_47 fu p0 p1 p2 fu o26 ((0 : Int32)) o28) fun (z41 : Int32 × TM) =>
some (z41.1, z41.2)
)
else (
some ((-100002 : Int32), o25)
)
)
else (
some ((-100001 : Int32), u_mo)
)
)

abbrev rm_X5_trains : Room := { frames := 5, cells := 0, slots := 0, locals := 119 }
set_option maxHeartbeats 4000000 in
set_option maxRecDepth 100000 in
theorem c_X5_trains (l : Launch) (D : va_G) (cT : Nat → ClassId) (g : Nat → Nat) (b : Nat) (fu : Nat) (u_mo : TM) (p0 : Int32) (p1 : Int32) (p2 : Int32) (o : Int32 × TM) (hf : f_X5_trains fu u_mo p0 p1 p2 = some o) (sz : Nat) : Met l yX5_trains wsX5_trains rm_X5_trains (va_Pc [.ref (g b), .int p0, .int p1, .int p2] (PRE D cT sz (List.flatten [wM cT g b u_mo]))) (QI D o.1 (List.flatten [wM cT g b o.2]) (va_A (List.flatten [wM cT g b u_mo]) sz)) 0 0 (va_A (List.flatten [wM cT g b u_mo]) sz) := by
  refine Met.ofW (cc := cX5_trains) (maxL := 6) (ret := (some .int)) (by decide) rfl ?_
  intro p e s m args below meth c s₁ B0 hml hv
  obtain ⟨hav, hsz, hP, hK, hD, hN, hZ⟩ := hv
  have hx := B0.exec
  have hb := B0.bytes
  have hr := B0.returns
  have hts := atoms_spec (ws := wsX5_trains) B0.pre
  have hown : s.vm.findClass RX5 = some m.cls := findClass_of_methodNamed B0.named
  have hlocks := B0.notSynchronized
  subst hsz
  have hD := hD.self (sz := s.heap.size)
  have hA : ∀ q : Nat, s.heap.size ≤ q → va_A (List.flatten [wM cT g b u_mo]) s.heap.size q := fun q h => Or.inr h
  generalize va_A (List.flatten [wM cT g b u_mo]) s.heap.size = A at hD hZ hA ⊢
  have hS : va_S A s.heap s.heap [] := va_S.rf
  have hl := lv_entry ([.ref (g b), .int p0, .int p1, .int p2]) (n := 6) (Nat.le_of_ble_eq_true rfl)
  rw [hav]
  rw [lg_entry_eq]
  generalize (lg_sl ([.ref (g b), .int p0, .int p1, .int p2]) ++ List.replicate (6 - (lg_sl ([.ref (g b), .int p0, .int p1, .int p2])).length) Slot.unset).toArray = ls at hl ⊢
  have hl : lv_has ls 6 [(0, .ref (g b)), (1, .int p0), (2, .int p1), (3, .int p2)] := hl
  rw [← hav]
  generalize hQ : MQ below _ _ _ _ _ _ = Q
  show W p l e rm_X5_trains s m args below meth c s.heap [] 0 0 Q (F0 m 0 ls [])
  unfold f_X5_trains at hf
  refine lv_iload_n hx hb dX5_trains_0 rfl (lv_at hl 1 rfl) ?_
  refine lv_iload_n hx hb dX5_trains_1 rfl (lv_at hl 2 rfl) ?_
  obtain ⟨o21, ho21, hf⟩ := bd_i hf
  refine cl_i [] [0] [wM cT g b u_mo] hP (va_D_adr hD rfl) hA hS (va_runS (As := [.int p0, .int p1]) (rest := []) ⟨hx, hb, hml, hown, hts⟩ (c_X5_isTrain l D cT g  fu  p0 p1 o21 ho21 _) (va_cwS 2 hts gX5_trains_X5_isTrain rfl rfl rfl (by decide +kernel) ⟨Nat.le_of_ble_eq_true rfl, Nat.le_of_ble_eq_true rfl⟩) ⟨PRE_blind, PRE_ok [] (by decide) hP (va_D_adr hD rfl) hA hS hK hN hZ⟩ rfl rfl hl.1 rfl (lv_room (Nat.le_of_ble_eq_true rfl)) dX5_trains_2 ⟨Nat.le_of_ble_eq_true rfl, Nat.le_of_ble_eq_true rfl⟩) rfl 1 rfl (by decide) (by decide) (fun H locs hP hS => ?_)
  refine lv_if_eq (tgt := 18) hx hb dX5_trains_5 (by decide) (fun c22 => ?_) (fun c22 => ?_)
  · replace hf := it_t hf c22
    refine lv_ldc (v := -100001) hx hb hown (hts (.constant RX5 68 (-100001)) (List.mem_of_getElem? (i := 1) rfl)) dX5_trains_18 ?_
    obtain rfl := Option.some.inj hf
    subst hQ
    exact en_i hx hb hr hP hS hlocks dX5_trains_20
  · replace hf := it_f hf c22
    refine lv_iload_n hx hb dX5_trains_8 rfl (lv_at hl 3 rfl) ?_
    refine lv_iconst (v := 1) hx hb dX5_trains_9 (by decide) ?_
    refine lv_bipush (v := 50) hx hb dX5_trains_10 (by decide) ?_
    obtain ⟨o23, ho23, hf⟩ := bd_i hf
    refine cl_i [] [0] [wM cT g b u_mo] hP (va_D_adr hD rfl) hA hS (va_runS (As := [.int p2, .int ((1 : Int32)), .int ((50 : Int32))]) (rest := []) ⟨hx, hb, hml, hown, hts⟩ (c_X5_in l D cT g  fu  p2 ((1 : Int32)) ((50 : Int32)) o23 ho23 _) (va_cwS 3 hts gX5_trains_X5_in rfl rfl rfl (by decide +kernel) ⟨Nat.le_of_ble_eq_true rfl, Nat.le_of_ble_eq_true rfl⟩) ⟨PRE_blind, PRE_ok [] (by decide) hP (va_D_adr hD rfl) hA hS hK hN hZ⟩ rfl rfl hl.1 rfl (lv_room (Nat.le_of_ble_eq_true rfl)) dX5_trains_12 ⟨Nat.le_of_ble_eq_true rfl, Nat.le_of_ble_eq_true rfl⟩) rfl 1 rfl (by decide) (by decide) (fun H locs hP hS => ?_)
    refine lv_if_ne (tgt := 21) hx hb dX5_trains_15 (by decide) (fun c24 => ?_) (fun c24 => ?_)
    · replace hf := it_t hf c24
      refine lv_aload_n hx hb dX5_trains_21 rfl (lv_at hl 0 rfl) ?_
      obtain ⟨o25, ho25, hf⟩ := bd_i hf
      refine cl_v [0] [] [wM cT g b o25] hP (va_D_adr hD rfl) hA hS (va_runV (As := []) (rest := []) ⟨hx, hb, hml, hown, hts⟩ (c_X5_laysRail l D cT g b fu u_mo  o25 ho25 _) (cwV 0 hts gX5_trains_X5_laysRail rfl rfl rfl (by decide +kernel) ⟨Nat.le_of_ble_eq_true rfl, Nat.le_of_ble_eq_true rfl⟩) ⟨PRE_blind, va_recv hK hP (ci := 5) (q0 := 0) rfl rfl, PRE_ok [0] (by decide) hP (va_D_adr hD rfl) hA hS hK hN hZ⟩ rfl rfl hl.1 rfl (lv_room (Nat.le_of_ble_eq_true rfl)) dX5_trains_22 ⟨Nat.le_of_ble_eq_true rfl, Nat.le_of_ble_eq_true rfl⟩) rfl 1 rfl (by decide) (by decide) (fun H locs hP hS => ?_)
      refine lv_aload_n hx hb dX5_trains_25 rfl (lv_at hl 0 rfl) ?_
      obtain ⟨o26, ho26, hf⟩ := bd_i hf
      refine cl_i [0] [] [wM cT g b o25] hP (va_D_adr hD rfl) hA hS (va_runV (As := []) (rest := []) ⟨hx, hb, hml, hown, hts⟩ (c_X5_order l D cT g b fu o25  o26 ho26 _) (cwV 0 hts gX5_trains_X5_order rfl rfl rfl (by decide +kernel) ⟨Nat.le_of_ble_eq_true rfl, Nat.le_of_ble_eq_true rfl⟩) ⟨PRE_blind, va_recv hK hP (ci := 5) (q0 := 0) rfl rfl, PRE_ok [0] (by decide) hP (va_D_adr hD rfl) hA hS hK hN hZ⟩ rfl rfl hl.1 rfl (lv_room (Nat.le_of_ble_eq_true rfl)) dX5_trains_26 ⟨Nat.le_of_ble_eq_true rfl, Nat.le_of_ble_eq_true rfl⟩) rfl 1 rfl (by decide) (by decide) (fun H locs hP hS => ?_)
      refine lv_istore (lv' := [(4, .int o26), (0, .ref (g b)), (1, .int p0), (2, .int p1), (3, .int p2)]) hx hb dX5_trains_29 hl (by decide) rfl (fun ls hl => ?_)
      refine lv_iload hx hb dX5_trains_31 (lv_at hl 0 rfl) ?_
      refine lv_iconst (v := 3) hx hb dX5_trains_33 (by decide) ?_
      refine lv_icmp_ne (tgt := 40) hx hb dX5_trains_34 (by decide) (fun c27 => ?_) (fun c27 => ?_)
      · replace hf := it_t hf c27
        refine lv_aload_n hx hb dX5_trains_40 rfl (lv_at hl 1 rfl) ?_
        obtain ⟨o28, ho28, hf⟩ := bd_i hf
        refine cl_v [0] [] [wM cT g b o28] hP (va_D_adr hD rfl) hA hS (va_runV (As := []) (rest := []) ⟨hx, hb, hml, hown, hts⟩ (c_X5_notes l D cT g b fu o25  o28 ho28 _) (cwV 0 hts gX5_trains_X5_notes rfl rfl rfl (by decide +kernel) ⟨Nat.le_of_ble_eq_true rfl, Nat.le_of_ble_eq_true rfl⟩) ⟨PRE_blind, va_recv hK hP (ci := 5) (q0 := 0) rfl rfl, PRE_ok [0] (by decide) hP (va_D_adr hD rfl) hA hS hK hN hZ⟩ rfl rfl hl.1 rfl (lv_room (Nat.le_of_ble_eq_true rfl)) dX5_trains_41 ⟨Nat.le_of_ble_eq_true rfl, Nat.le_of_ble_eq_true rfl⟩) rfl 1 rfl (by decide) (by decide) (fun H locs hP hS => ?_)
        refine lv_iconst (v := 0) hx hb dX5_trains_44 (by decide) ?_
        refine lv_istore (lv' := [(5, .int ((0 : Int32))), (4, .int o26), (0, .ref (g b)), (1, .int p0), (2, .int p1), (3, .int p2)]) hx hb dX5_trains_45 hl (by decide) rfl (fun ls hl => ?_)
        obtain ⟨z41, hz41, hf⟩ := bd_i hf
        have hL47 : ∀ (n : Nat) (v37 : Int32) (v38 : Int32) (u39 : TM) (z40 : Int32 × TM), lf_X5_trains_47 fu p0 p1 p2 n v37 v38 u39 = some z40 → ∀ (H : Heap) (locs : List Loc) (ls : Array Slot), va_P D vwCl (List.flatten [wM cT g b u39]) H → va_S A s.heap H locs → lv_has ls 6 [(0, .ref (g b)), (1, .int p0), (2, .int p1), (3, .int p2), (4, .int v37), (5, .int v38)] → (∀ (H : Heap) (locs : List Loc) (ls : Array Slot), va_P D vwCl (List.flatten [wM cT g b z40.2]) H → va_S A s.heap H locs → lv_has ls 6 [(5, .int z40.1)] → W p l e rm_X5_trains s m args below meth c H locs 0 0 Q (F0 m 79 ls [])) → W p l e rm_X5_trains s m args below meth c H locs 0 0 Q (F0 m 47 ls []) := by
          refine lq_3_ind (F := lb_X5_trains_47 fu p0 p1 p2) (fun rec ih v37 v38 u39 z40 hf H locs ls hP hS hl kx => ?_)
          unfold lb_X5_trains_47 at hf
          refine lv_iload hx hb dX5_trains_47 (lv_at hl 5 rfl) ?_
          refine lv_iload_n hx hb dX5_trains_49 rfl (lv_at hl 3 rfl) ?_
          refine lv_icmp_ge (tgt := 79) hx hb dX5_trains_50 (by decide) (fun c42 => ?_) (fun c42 => ?_)
          · replace hf := it_t hf c42
            obtain rfl := Option.some.inj hf
            exact kx _ _ _ hP hS (lv_sub hl [5] rfl)
          · replace hf := it_f hf c42
            refine lv_iload hx hb dX5_trains_53 (lv_at hl 4 rfl) ?_
            refine lv_iconst (v := 3) hx hb dX5_trains_55 (by decide) ?_
            refine lv_icmp_ge (tgt := 79) hx hb dX5_trains_56 (by decide) (fun c43 => ?_) (fun c43 => ?_)
            · replace hf := it_t hf c43
              obtain rfl := Option.some.inj hf
              exact kx _ _ _ hP hS (lv_sub hl [5] rfl)
            · replace hf := it_f hf c43
              refine lv_aload_n hx hb dX5_trains_59 rfl (lv_at hl 0 rfl) ?_
              refine lv_iload_n hx hb dX5_trains_60 rfl (lv_at hl 1 rfl) ?_
              refine lv_iload_n hx hb dX5_trains_61 rfl (lv_at hl 2 rfl) ?_
              refine lv_iload hx hb dX5_trains_62 (lv_at hl 4 rfl) ?_
              obtain ⟨o44, ho44, hf⟩ := bd_i hf
              refine cl_v [0] [] [wM cT g b o44] hP (va_D_adr hD rfl) hA hS (va_runV (As := [.int p0, .int p1, .int v37]) (rest := []) ⟨hx, hb, hml, hown, hts⟩ (c_X5_passes l D cT g b fu u39 p0 p1 v37 o44 ho44 _) (cwV 3 hts gX5_trains_X5_passes rfl rfl rfl (by decide +kernel) ⟨Nat.le_of_ble_eq_true rfl, Nat.le_of_ble_eq_true rfl⟩) ⟨PRE_blind, va_recv hK hP (ci := 5) (q0 := 0) rfl rfl, PRE_ok [0] (by decide) hP (va_D_adr hD rfl) hA hS hK hN hZ⟩ rfl rfl hl.1 rfl (lv_room (Nat.le_of_ble_eq_true rfl)) dX5_trains_64 ⟨Nat.le_of_ble_eq_true rfl, Nat.le_of_ble_eq_true rfl⟩) rfl 1 rfl (by decide) (by decide) (fun H locs hP hS => ?_)
              refine lv_aload_n hx hb dX5_trains_67 rfl (lv_at hl 0 rfl) ?_
              obtain ⟨o45, ho45, hf⟩ := bd_i hf
              refine cl_i [0] [] [wM cT g b o44] hP (va_D_adr hD rfl) hA hS (va_runV (As := []) (rest := []) ⟨hx, hb, hml, hown, hts⟩ (c_X5_order l D cT g b fu o44  o45 ho45 _) (cwV 0 hts gX5_trains_X5_order rfl rfl rfl (by decide +kernel) ⟨Nat.le_of_ble_eq_true rfl, Nat.le_of_ble_eq_true rfl⟩) ⟨PRE_blind, va_recv hK hP (ci := 5) (q0 := 0) rfl rfl, PRE_ok [0] (by decide) hP (va_D_adr hD rfl) hA hS hK hN hZ⟩ rfl rfl hl.1 rfl (lv_room (Nat.le_of_ble_eq_true rfl)) dX5_trains_68 ⟨Nat.le_of_ble_eq_true rfl, Nat.le_of_ble_eq_true rfl⟩) rfl 1 rfl (by decide) (by decide) (fun H locs hP hS => ?_)
              refine lv_istore (lv' := [(4, .int o45), (0, .ref (g b)), (1, .int p0), (2, .int p1), (3, .int p2), (5, .int v38)]) hx hb dX5_trains_71 hl (by decide) rfl (fun ls hl => ?_)
              obtain ⟨x46, ex46⟩ : ∃ z : Int32, z = v38 + (1 : Int32) := ⟨_, rfl⟩
              replace hf := nm_i hf ex46
              refine lv_iinc (v := x46) (lv' := [(5, .int x46), (4, .int o45), (0, .ref (g b)), (1, .int p0), (2, .int p1), (3, .int p2)]) hx hb dX5_trains_73 hl (k := 5) rfl (by rw [ex46]; rfl) (by decide) rfl (fun ls hl => ?_)
              refine lv_goto (tgt := 47) hx hb dX5_trains_76 (by decide) ?_
              exact ih _ _ _ _ hf _ _ _ hP hS (lv_sub hl [2, 3, 4, 5, 1, 0] rfl) kx
        refine hL47 fu _ _ _ _ hz41 _ _ _ hP hS (lv_sub hl [2, 3, 4, 5, 1, 0] rfl) (fun H locs ls hP hS hl => ?_)
        refine lv_iload hx hb dX5_trains_79 (lv_at hl 0 rfl) ?_
        obtain rfl := Option.some.inj hf
        subst hQ
        exact en_i hx hb hr hP hS hlocks dX5_trains_81
      · replace hf := it_f hf (not_not_intro c27)
        refine lv_ldc (v := -100002) hx hb hown (hts (.constant RX5 36 (-100002)) (List.mem_of_getElem? (i := 2) rfl)) dX5_trains_37 ?_
        obtain rfl := Option.some.inj hf
        subst hQ
        exact en_i hx hb hr hP hS hlocks dX5_trains_39
    · replace hf := it_f hf (not_not_intro c24)
      refine lv_ldc (v := -100001) hx hb hown (hts (.constant RX5 68 (-100001)) (List.mem_of_getElem? (i := 1) rfl)) dX5_trains_18 ?_
      obtain rfl := Option.some.inj hf
      subst hQ
      exact en_i hx hb hr hP hS hlocks dX5_trains_20
