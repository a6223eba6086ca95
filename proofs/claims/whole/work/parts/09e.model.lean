theorem iw_X5_works_X5 : ∀ w ∈ u_ws RX5 TX5 12, w ∈ wsX5_works := by decide +kernel
def lb_X5_works_7 (fu : Nat)  (rec : Int32 → Int32 → Int32 → TM → Option (Int32 × Int32 × TM)) (v458 : Int32) (v459 : Int32) (v460 : Int32) (u461 : TM) : Option (Int32 × Int32 × TM) :=
if v460 = 0 then (
some (v458, v459, u461)
)
else (
nm (M_ss u461 16) fun (x465 : Int32) =>
if x465 ≤ 0 then (
some (v458, v459, u461)
)
else (
bd (f_X5_jobOf fu u461 ((0 : Int32)) ((3 : Int32))) fun (o467 : Int32) =>
bd (f_X5_jobOf fu u461 ((0 : Int32)) ((2 : Int32))) fun (o468 : Int32) =>
bd (f_X5_liftOf fu u461 o467 o468) fun (o469 : Int32) =>
nm (M_ss u461 8) fun (x470 : Int32) =>
jn (fun (x472 : Int32) =>
jn (fun (x582 : Int32) =>
jn (fun (x639 : Int32) (x640 : Int32) (u641 : TM) =>
jn (fun (u668 : TM) =>
rec x639 x640 x582 u668
) fun K150_669 =>
if x582 = 0 then (
K150_669 u641
)
else (
nm (M_ss u641 20) fun (x671 : Int32) =>
nm (x671 + (1 : Int32)) fun (x672 : Int32) =>
nm (M_ss_ u641 (upd (M_ss u641) 20 x672)) fun (u673 : TM) =>
nm (M_ss u673 20) fun (x674 : Int32) =>
bd (f_X5_jobOf fu u673 ((0 : Int32)) ((1 : Int32))) fun (o675 : Int32) =>
if x674 ≤ o675 then (
K150_669 u673
)
else (
bd (f_X5_drops fu u673 ((0 : Int32))) fun (o677 : TM) =>
K150_669 o677
)
)
) fun K113_659 =>
if x582 = 0 then (
K113_659 v458 v459 u461
)
else (
if x472 = 0 then (
K113_659 v458 v459 u461
)
else (
bd (f_X5_minutesFor fu  o469) fun (o680 : Int32) =>
nm (v458 - o680) fun (x681 : Int32) =>
bd (f_X5_lift fu u461 o467 o469) fun (o682 : TM) =>
nm (v459 + (1 : Int32)) fun (x683 : Int32) =>
K113_659 x681 x683 o682
)
)
) fun K82_632 =>
jn (K82_632 ((1 : Int32))
) fun K77_684 =>
if x472 = 0 then (
K77_684 
)
else (
bd (f_X5_minutesFor fu  o469) fun (o686 : Int32) =>
if v458 < o686 then (
K82_632 ((0 : Int32))
)
else (
K77_684 
)
)
) fun K61_578 =>
if o469 < x470 then (
K61_578 ((0 : Int32))
)
else (
K61_578 ((1 : Int32))
)
)
)

def lf_X5_works_7 (fu : Nat)  : Nat → Int32 → Int32 → Int32 → TM → Option (Int32 × Int32 × TM) := lq_4 (lb_X5_works_7 fu )
def f_X5_works (fu : Nat) (u_mo : TM) (p0 : Int32) : Option (Int32 × TM) :=
bd (lf_X5_works_7 fu  fu p0 ((0 : Int32)) ((1 : Int32)) u_mo) fun (z463 : Int32 × Int32 × TM) =>
nm (M_ss z463.2.2 12) fun (x689 : Int32) =>
nm (p0 - z463.1) fun (x690 : Int32) =>
nm (x689 + x690) fun (x691 : Int32) =>
nm (M_ss_ z463.2.2 (upd (M_ss z463.2.2) 12 x691)) fun (u692 : TM) =>
some (z463.2.1, u692)

abbrev rm_X5_works : Room := { frames := 2, cells := 0, slots := 0, locals := 43 }
set_option maxHeartbeats 4000000 in
set_option maxRecDepth 100000 in
theorem c_X5_works (l : Launch) (D : va_G) (cT : Nat → ClassId) (g : Nat → Nat) (b : Nat) (fu : Nat) (u_mo : TM) (p0 : Int32) (o : Int32 × TM) (hf : f_X5_works fu u_mo p0 = some o) (sz : Nat) : Met l yX5_works wsX5_works rm_X5_works (va_Pc [.ref (g b), .int p0] (PRE D cT sz (List.flatten [wM cT g b u_mo]))) (QI D o.1 (List.flatten [wM cT g b o.2]) (va_A (List.flatten [wM cT g b u_mo]) sz)) 0 0 (va_A (List.flatten [wM cT g b u_mo]) sz) := by
  refine Met.ofW (cc := cX5_works) (maxL := 8) (ret := (some .int)) (by decide) rfl ?_
  intro p e s m args below meth c s₁ B0 hml hv
  obtain ⟨hav, hsz, hP, hK, hD, hN, hZ⟩ := hv
  have hx := B0.exec
  have hb := B0.bytes
  have hr := B0.returns
  have hts := atoms_spec (ws := wsX5_works) B0.pre
  have hown : s.vm.findClass RX5 = some m.cls := findClass_of_methodNamed B0.named
  have hlocks := B0.notSynchronized
  subst hsz
  have hD := hD.self (sz := s.heap.size)
  have hA : ∀ q : Nat, s.heap.size ≤ q → va_A (List.flatten [wM cT g b u_mo]) s.heap.size q := fun q h => Or.inr h
  generalize va_A (List.flatten [wM cT g b u_mo]) s.heap.size = A at hD hZ hA ⊢
  have hS : va_S A s.heap s.heap [] := va_S.rf
  have hl := lv_entry ([.ref (g b), .int p0]) (n := 8) (Nat.le_of_ble_eq_true rfl)
  rw [hav]
  rw [lg_entry_eq]
  generalize (lg_sl ([.ref (g b), .int p0]) ++ List.replicate (8 - (lg_sl ([.ref (g b), .int p0])).length) Slot.unset).toArray = ls at hl ⊢
  have hl : lv_has ls 8 [(0, .ref (g b)), (1, .int p0)] := hl
  rw [← hav]
  generalize hQ : MQ below _ _ _ _ _ _ = Q
  show W p l e rm_X5_works s m args below meth c s.heap [] 0 0 Q (F0 m 0 ls [])
  unfold f_X5_works at hf
  refine lv_iload_n hx hb dX5_works_0 rfl (lv_at hl 1 rfl) ?_
  refine lv_istore_n (lv' := [(2, .int p0), (0, .ref (g b)), (1, .int p0)]) hx hb dX5_works_1 rfl hl (by decide) rfl (fun ls hl => ?_)
  refine lv_iconst (v := 0) hx hb dX5_works_2 (by decide) ?_
  refine lv_istore_n (lv' := [(3, .int ((0 : Int32))), (2, .int p0), (0, .ref (g b)), (1, .int p0)]) hx hb dX5_works_3 rfl hl (by decide) rfl (fun ls hl => ?_)
  refine lv_iconst (v := 1) hx hb dX5_works_4 (by decide) ?_
  refine lv_istore (lv' := [(4, .int ((1 : Int32))), (3, .int ((0 : Int32))), (2, .int p0), (0, .ref (g b)), (1, .int p0)]) hx hb dX5_works_5 hl (by decide) rfl (fun ls hl => ?_)
  obtain ⟨z463, hz463, hf⟩ := bd_i hf
  have hL7 : ∀ (n : Nat) (v458 : Int32) (v459 : Int32) (v460 : Int32) (u461 : TM) (z462 : Int32 × Int32 × TM), lf_X5_works_7 fu  n v458 v459 v460 u461 = some z462 → ∀ (H : Heap) (locs : List Loc) (ls : Array Slot), va_P D vwCl (List.flatten [wM cT g b u461]) H → va_S A s.heap H locs → lv_has ls 8 [(0, .ref (g b)), (1, .int p0), (2, .int v458), (3, .int v459), (4, .int v460)] → (∀ (H : Heap) (locs : List Loc) (ls : Array Slot), va_P D vwCl (List.flatten [wM cT g b z462.2.2]) H → va_S A s.heap H locs → lv_has ls 8 [(0, .ref (g b)), (1, .int p0), (2, .int z462.1), (3, .int z462.2.1)] → W p l e rm_X5_works s m args below meth c H locs 0 0 Q (F0 m 153 ls [])) → W p l e rm_X5_works s m args below meth c H locs 0 0 Q (F0 m 7 ls []) := by
    refine lq_4_ind (F := lb_X5_works_7 fu ) (fun rec ih v458 v459 v460 u461 z462 hf H locs ls hP hS hl kx => ?_)
    unfold lb_X5_works_7 at hf
    refine lv_iload hx hb dX5_works_7 (lv_at hl 4 rfl) ?_
    refine lv_if_eq (tgt := 153) hx hb dX5_works_9 (by decide) (fun c464 => ?_) (fun c464 => ?_)
    · replace hf := it_t hf c464
      obtain rfl := Option.some.inj hf
      exact kx _ _ _ hP hS (lv_sub hl [0, 1, 2, 3] rfl)
    · replace hf := it_f hf c464
      refine lv_aload_n hx hb dX5_works_12 rfl (lv_at hl 0 rfl) ?_
      refine va_get (ci := 5) (v := .ref (g (b + 1))) (C := RX5) (T := TX5) (N := 12) hx hb hts iw_X5_works_X5 hown hK hP 0 rfl rfl 0 (by decide) (hts (.fieldLink RX5 7 "BallastTrackModel" "s" "[I") (List.mem_of_getElem? (i := 1) rfl)) (fun _ h9 => h9) rfl dX5_works_13 ?_
      refine lv_bipush (v := 16) hx hb dX5_works_16 (by decide) ?_
      refine va_iald hx hb hK hP 1 0 rfl rfl (by unfold vp_in; decide) dX5_works_18 ?_
      refine lv_topi (fun x465 ex465 => ?_)
      replace hf := nm_i hf ex465
      refine lv_if_le (tgt := 153) hx hb dX5_works_19 (by decide) (fun c466 => ?_) (fun c466 => ?_)
      · replace hf := it_t hf c466
        obtain rfl := Option.some.inj hf
        exact kx _ _ _ hP hS (lv_sub hl [0, 1, 2, 3] rfl)
      · replace hf := it_f hf c466
        refine lv_aload_n hx hb dX5_works_22 rfl (lv_at hl 0 rfl) ?_
        refine lv_iconst (v := 0) hx hb dX5_works_23 (by decide) ?_
        refine lv_iconst (v := 3) hx hb dX5_works_24 (by decide) ?_
        obtain ⟨o467, ho467, hf⟩ := bd_i hf
        refine cl_i [0] [] [wM cT g b u461] hP (va_D_adr hD rfl) hA hS (va_runV (As := [.int ((0 : Int32)), .int ((3 : Int32))]) (rest := []) ⟨hx, hb, hml, hown, hts⟩ (c_X5_jobOf l D cT g b fu u461 ((0 : Int32)) ((3 : Int32)) o467 ho467 _) (cwV 2 hts gX5_works_X5_jobOf rfl rfl rfl (by decide +kernel) ⟨Nat.le_of_ble_eq_true rfl, Nat.le_of_ble_eq_true rfl⟩) ⟨PRE_blind, va_recv hK hP (ci := 5) (q0 := 0) rfl rfl, PRE_ok [0] (by decide) hP (va_D_adr hD rfl) hA hS hK hN hZ⟩ rfl rfl hl.1 rfl (lv_room (Nat.le_of_ble_eq_true rfl)) dX5_works_25 ⟨Nat.le_of_ble_eq_true rfl, Nat.le_of_ble_eq_true rfl⟩) rfl 1 rfl (by decide) (by decide) (fun H locs hP hS => ?_)
        refine lv_istore (lv' := [(5, .int o467), (0, .ref (g b)), (1, .int p0), (2, .int v458), (3, .int v459), (4, .int v460)]) hx hb dX5_works_28 hl (by decide) rfl (fun ls hl => ?_)
        refine lv_aload_n hx hb dX5_works_30 rfl (lv_at hl 1 rfl) ?_
        refine lv_iload hx hb dX5_works_31 (lv_at hl 0 rfl) ?_
        refine lv_aload_n hx hb dX5_works_33 rfl (lv_at hl 1 rfl) ?_
        refine lv_iconst (v := 0) hx hb dX5_works_34 (by decide) ?_
        refine lv_iconst (v := 2) hx hb dX5_works_35 (by decide) ?_
        obtain ⟨o468, ho468, hf⟩ := bd_i hf
        refine cl_i [0] [] [wM cT g b u461] hP (va_D_adr hD rfl) hA hS (va_runV (As := [.int ((0 : Int32)), .int ((2 : Int32))]) (rest := [.int o467, .ref (g b)]) ⟨hx, hb, hml, hown, hts⟩ (c_X5_jobOf l D cT g b fu u461 ((0 : Int32)) ((2 : Int32)) o468 ho468 _) (cwV 2 hts gX5_works_X5_jobOf rfl rfl rfl (by decide +kernel) ⟨Nat.le_of_ble_eq_true rfl, Nat.le_of_ble_eq_true rfl⟩) ⟨PRE_blind, va_recv hK hP (ci := 5) (q0 := 0) rfl rfl, PRE_ok [0] (by decide) hP (va_D_adr hD rfl) hA hS hK hN hZ⟩ rfl rfl hl.1 rfl (lv_room (Nat.le_of_ble_eq_true rfl)) dX5_works_36 ⟨Nat.le_of_ble_eq_true rfl, Nat.le_of_ble_eq_true rfl⟩) rfl 1 rfl (by decide) (by decide) (fun H locs hP hS => ?_)
        obtain ⟨o469, ho469, hf⟩ := bd_i hf
        refine cl_i [0] [] [wM cT g b u461] hP (va_D_adr hD rfl) hA hS (va_runV (As := [.int o467, .int o468]) (rest := []) ⟨hx, hb, hml, hown, hts⟩ (c_X5_liftOf l D cT g b fu u461 o467 o468 o469 ho469 _) (cwV 2 hts gX5_works_X5_liftOf rfl rfl rfl (by decide +kernel) ⟨Nat.le_of_ble_eq_true rfl, Nat.le_of_ble_eq_true rfl⟩) ⟨PRE_blind, va_recv hK hP (ci := 5) (q0 := 0) rfl rfl, PRE_ok [0] (by decide) hP (va_D_adr hD rfl) hA hS hK hN hZ⟩ rfl rfl hl.1 rfl (lv_room (Nat.le_of_ble_eq_true rfl)) dX5_works_39 ⟨Nat.le_of_ble_eq_true rfl, Nat.le_of_ble_eq_true rfl⟩) rfl 1 rfl (by decide) (by decide) (fun H locs hP hS => ?_)
        refine lv_istore (lv' := [(6, .int o469), (5, .int o467), (0, .ref (g b)), (1, .int p0), (2, .int v458), (3, .int v459), (4, .int v460)]) hx hb dX5_works_42 hl (by decide) rfl (fun ls hl => ?_)
        refine lv_iload hx hb dX5_works_44 (lv_at hl 0 rfl) ?_
        refine lv_aload_n hx hb dX5_works_46 rfl (lv_at hl 2 rfl) ?_
        refine va_get (ci := 5) (v := .ref (g (b + 1))) (C := RX5) (T := TX5) (N := 12) hx hb hts iw_X5_works_X5 hown hK hP 0 rfl rfl 0 (by decide) (hts (.fieldLink RX5 7 "BallastTrackModel" "s" "[I") (List.mem_of_getElem? (i := 1) rfl)) (fun _ h9 => h9) rfl dX5_works_47 ?_
        refine lv_bipush (v := 8) hx hb dX5_works_50 (by decide) ?_
        refine va_iald hx hb hK hP 1 0 rfl rfl (by unfold vp_in; decide) dX5_works_52 ?_
        refine lv_topi (fun x470 ex470 => ?_)
        replace hf := nm_i hf ex470
        obtain ⟨K61_578, eK61_578, hf⟩ := jn_i hf
        have hK61_578 : ∀ (x472 : Int32) (H : Heap) (locs : List Loc) (ls : Array Slot), K61_578 x472 = some z462 → va_P D vwCl (List.flatten [wM cT g b u461]) H → va_S A s.heap H locs → lv_has ls 8 [(0, .ref (g b)), (1, .int p0), (2, .int v458), (3, .int v459), (5, .int o467), (6, .int o469)] → W p l e rm_X5_works s m args below meth c H locs 0 0 Q (F0 m 61 ls [.int x472]) := by
          intro x472 H locs ls hf hP hS hl
          rw [eK61_578] at hf
          refine lv_istore (lv' := [(7, .int x472), (0, .ref (g b)), (1, .int p0), (2, .int v458), (3, .int v459), (5, .int o467), (6, .int o469)]) hx hb dX5_works_61 hl (by decide) rfl (fun ls hl => ?_)
          refine lv_iload hx hb dX5_works_63 (lv_at hl 0 rfl) ?_
          obtain ⟨K82_632, eK82_632, hf⟩ := jn_i hf
          have hK82_632 : ∀ (x582 : Int32) (H : Heap) (locs : List Loc) (ls : Array Slot), K82_632 x582 = some z462 → va_P D vwCl (List.flatten [wM cT g b u461]) H → va_S A s.heap H locs → lv_has ls 8 [(0, .ref (g b)), (1, .int p0), (2, .int v458), (3, .int v459), (5, .int o467), (6, .int o469), (7, .int x472)] → W p l e rm_X5_works s m args below meth c H locs 0 0 Q (F0 m 82 ls [.int x582]) := by
            intro x582 H locs ls hf hP hS hl
            rw [eK82_632] at hf
            refine lv_istore (lv' := [(4, .int x582), (0, .ref (g b)), (1, .int p0), (2, .int v458), (3, .int v459), (5, .int o467), (6, .int o469), (7, .int x472)]) hx hb dX5_works_82 hl (by decide) rfl (fun ls hl => ?_)
            refine lv_iload hx hb dX5_works_84 (lv_at hl 0 rfl) ?_
            obtain ⟨K113_659, eK113_659, hf⟩ := jn_i hf
            have hK113_659 : ∀ (x639 : Int32) (x640 : Int32) (u641 : TM) (H : Heap) (locs : List Loc) (ls : Array Slot), K113_659 x639 x640 u641 = some z462 → va_P D vwCl (List.flatten [wM cT g b u641]) H → va_S A s.heap H locs → lv_has ls 8 [(0, .ref (g b)), (1, .int p0), (2, .int x639), (3, .int x640), (4, .int x582)] → W p l e rm_X5_works s m args below meth c H locs 0 0 Q (F0 m 113 ls []) := by
              intro x639 x640 u641 H locs ls hf hP hS hl
              rw [eK113_659] at hf
              refine lv_iload hx hb dX5_works_113 (lv_at hl 4 rfl) ?_
              obtain ⟨K150_669, eK150_669, hf⟩ := jn_i hf
              have hK150_669 : ∀ (u668 : TM) (H : Heap) (locs : List Loc) (ls : Array Slot), K150_669 u668 = some z462 → va_P D vwCl (List.flatten [wM cT g b u668]) H → va_S A s.heap H locs → lv_has ls 8 [(0, .ref (g b)), (1, .int p0), (2, .int x639), (3, .int x640), (4, .int x582)] → W p l e rm_X5_works s m args below meth c H locs 0 0 Q (F0 m 150 ls []) := by
                intro u668 H locs ls hf hP hS hl
                rw [eK150_669] at hf
                refine lv_goto (tgt := 7) hx hb dX5_works_150 (by decide) ?_
                exact ih _ _ _ _ _ hf _ _ _ hP hS (lv_sub hl [0, 1, 2, 3, 4] rfl) kx
              clear eK150_669
              refine lv_if_eq (tgt := 150) hx hb dX5_works_115 (by decide) (fun c670 => ?_) (fun c670 => ?_)
              · replace hf := it_t hf c670
                exact hK150_669 _ _ _ _ hf hP hS (lv_sub hl [0, 1, 2, 3, 4] rfl)
              · replace hf := it_f hf c670
                refine lv_aload_n hx hb dX5_works_118 rfl (lv_at hl 0 rfl) ?_
                refine va_get (ci := 5) (v := .ref (g (b + 1))) (C := RX5) (T := TX5) (N := 12) hx hb hts iw_X5_works_X5 hown hK hP 0 rfl rfl 0 (by decide) (hts (.fieldLink RX5 7 "BallastTrackModel" "s" "[I") (List.mem_of_getElem? (i := 1) rfl)) (fun _ h9 => h9) rfl dX5_works_119 ?_
                refine lv_bipush (v := 20) hx hb dX5_works_122 (by decide) ?_
                refine lv_dup2_11 hx hb dX5_works_124 rfl rfl ?_
                refine va_iald hx hb hK hP 1 0 rfl rfl (by unfold vp_in; decide) dX5_works_125 ?_
                refine lv_topi (fun x671 ex671 => ?_)
                replace hf := nm_i hf ex671
                refine lv_iconst (v := 1) hx hb dX5_works_126 (by decide) ?_
                refine lv_iadd hx hb dX5_works_127 ?_
                refine lv_topi (fun x672 ex672 => ?_)
                replace hf := nm_i hf ex672
                refine va_iast hx hb hK hP (va_D_adr hD rfl) hS 1 0 rfl rfl (by unfold vp_in; decide) dX5_works_128 (fun H locs hP _ hS => ?_)
                obtain ⟨u673, eu673⟩ : ∃ z : TM, z = M_ss_ u641 (upd (M_ss u641) 20 x672) := ⟨_, rfl⟩
                replace hf := nm_i hf eu673
                have hP : va_P D vwCl (List.flatten [wM cT g b u673]) H := by rw [eu673]; exact hP
                refine lv_aload_n hx hb dX5_works_129 rfl (lv_at hl 0 rfl) ?_
                refine va_get (ci := 5) (v := .ref (g (b + 1))) (C := RX5) (T := TX5) (N := 12) hx hb hts iw_X5_works_X5 hown hK hP 0 rfl rfl 0 (by decide) (hts (.fieldLink RX5 7 "BallastTrackModel" "s" "[I") (List.mem_of_getElem? (i := 1) rfl)) (fun _ h9 => h9) rfl dX5_works_130 ?_
                refine lv_bipush (v := 20) hx hb dX5_works_133 (by decide) ?_
                refine va_iald hx hb hK hP 1 0 rfl rfl (by unfold vp_in; decide) dX5_works_135 ?_
                refine lv_topi (fun x674 ex674 => ?_)
                replace hf := nm_i hf ex674
                refine lv_aload_n hx hb dX5_works_136 rfl (lv_at hl 0 rfl) ?_
                refine lv_iconst (v := 0) hx hb dX5_works_137 (by decide) ?_
                refine lv_iconst (v := 1) hx hb dX5_works_138 (by decide) ?_
                obtain ⟨o675, ho675, hf⟩ := bd_i hf
                refine cl_i [0] [] [wM cT g b u673] hP (va_D_adr hD rfl) hA hS (va_runV (As := [.int ((0 : Int32)), .int ((1 : Int32))]) (rest := [.int x674]) ⟨hx, hb, hml, hown, hts⟩ (c_X5_jobOf l D cT g b fu u673 ((0 : Int32)) ((1 : Int32)) o675 ho675 _) (cwV 2 hts gX5_works_X5_jobOf rfl rfl rfl (by decide +kernel) ⟨Nat.le_of_ble_eq_true rfl, Nat.le_of_ble_eq_true rfl⟩) ⟨PRE_blind, va_recv hK hP (ci := 5) (q0 := 0) rfl rfl, PRE_ok [0] (by decide) hP (va_D_adr hD rfl) hA hS hK hN hZ⟩ rfl rfl hl.1 rfl (lv_room (Nat.le_of_ble_eq_true rfl)) dX5_works_139 ⟨Nat.le_of_ble_eq_true rfl, Nat.le_of_ble_eq_true rfl⟩) rfl 1 rfl (by decide) (by decide) (fun H locs hP hS => ?_)
                refine lv_icmp_le (tgt := 150) hx hb dX5_works_142 (by decide) (fun c676 => ?_) (fun c676 => ?_)
                · replace hf := it_t hf c676
                  exact hK150_669 _ _ _ _ hf hP hS (lv_sub hl [0, 1, 2, 3, 4] rfl)
                · replace hf := it_f hf c676
                  refine lv_aload_n hx hb dX5_works_145 rfl (lv_at hl 0 rfl) ?_
                  refine lv_iconst (v := 0) hx hb dX5_works_146 (by decide) ?_
                  obtain ⟨o677, ho677, hf⟩ := bd_i hf
                  refine cl_v [0] [] [wM cT g b o677] hP (va_D_adr hD rfl) hA hS (va_runV (As := [.int ((0 : Int32))]) (rest := []) ⟨hx, hb, hml, hown, hts⟩ (c_X5_drops l D cT g b fu u673 ((0 : Int32)) o677 ho677 _) (cwV 1 hts gX5_works_X5_drops rfl rfl rfl (by decide +kernel) ⟨Nat.le_of_ble_eq_true rfl, Nat.le_of_ble_eq_true rfl⟩) ⟨PRE_blind, va_recv hK hP (ci := 5) (q0 := 0) rfl rfl, PRE_ok [0] (by decide) hP (va_D_adr hD rfl) hA hS hK hN hZ⟩ rfl rfl hl.1 rfl (lv_room (Nat.le_of_ble_eq_true rfl)) dX5_works_147 ⟨Nat.le_of_ble_eq_true rfl, Nat.le_of_ble_eq_true rfl⟩) rfl 1 rfl (by decide) (by decide) (fun H locs hP hS => ?_)
                  exact hK150_669 _ _ _ _ hf hP hS (lv_sub hl [0, 1, 2, 3, 4] rfl)
            clear eK113_659
            refine lv_if_eq (tgt := 113) hx hb dX5_works_86 (by decide) (fun c678 => ?_) (fun c678 => ?_)
            · replace hf := it_t hf c678
              exact hK113_659 _ _ _ _ _ _ hf hP hS (lv_sub hl [1, 2, 3, 4, 0] rfl)
            · replace hf := it_f hf c678
              refine lv_iload hx hb dX5_works_89 (lv_at hl 7 rfl) ?_
              refine lv_if_eq (tgt := 113) hx hb dX5_works_91 (by decide) (fun c679 => ?_) (fun c679 => ?_)
              · replace hf := it_t hf c679
                exact hK113_659 _ _ _ _ _ _ hf hP hS (lv_sub hl [1, 2, 3, 4, 0] rfl)
              · replace hf := it_f hf c679
                refine lv_iload_n hx hb dX5_works_94 rfl (lv_at hl 3 rfl) ?_
                refine lv_iload hx hb dX5_works_95 (lv_at hl 6 rfl) ?_
                obtain ⟨o680, ho680, hf⟩ := bd_i hf
                refine cl_i [] [0] [wM cT g b u461] hP (va_D_adr hD rfl) hA hS (va_runS (As := [.int o469]) (rest := [.int v458]) ⟨hx, hb, hml, hown, hts⟩ (c_X5_minutesFor l D cT g  fu  o469 o680 ho680 _) (va_cwS 1 hts gX5_works_X5_minutesFor rfl rfl rfl (by decide +kernel) ⟨Nat.le_of_ble_eq_true rfl, Nat.le_of_ble_eq_true rfl⟩) ⟨PRE_blind, PRE_ok [] (by decide) hP (va_D_adr hD rfl) hA hS hK hN hZ⟩ rfl rfl hl.1 rfl (lv_room (Nat.le_of_ble_eq_true rfl)) dX5_works_97 ⟨Nat.le_of_ble_eq_true rfl, Nat.le_of_ble_eq_true rfl⟩) rfl 1 rfl (by decide) (by decide) (fun H locs hP hS => ?_)
                refine lv_isub hx hb dX5_works_100 ?_
                refine lv_topi (fun x681 ex681 => ?_)
                replace hf := nm_i hf ex681
                refine lv_istore_n (lv' := [(2, .int x681), (4, .int x582), (0, .ref (g b)), (1, .int p0), (3, .int v459), (5, .int o467), (6, .int o469), (7, .int x472)]) hx hb dX5_works_101 rfl hl (by decide) rfl (fun ls hl => ?_)
                refine lv_aload_n hx hb dX5_works_102 rfl (lv_at hl 2 rfl) ?_
                refine lv_iload hx hb dX5_works_103 (lv_at hl 5 rfl) ?_
                refine lv_iload hx hb dX5_works_105 (lv_at hl 6 rfl) ?_
                obtain ⟨o682, ho682, hf⟩ := bd_i hf
                refine cl_v [0] [] [wM cT g b o682] hP (va_D_adr hD rfl) hA hS (va_runV (As := [.int o467, .int o469]) (rest := []) ⟨hx, hb, hml, hown, hts⟩ (c_X5_lift l D cT g b fu u461 o467 o469 o682 ho682 _) (cwV 2 hts gX5_works_X5_lift rfl rfl rfl (by decide +kernel) ⟨Nat.le_of_ble_eq_true rfl, Nat.le_of_ble_eq_true rfl⟩) ⟨PRE_blind, va_recv hK hP (ci := 5) (q0 := 0) rfl rfl, PRE_ok [0] (by decide) hP (va_D_adr hD rfl) hA hS hK hN hZ⟩ rfl rfl hl.1 rfl (lv_room (Nat.le_of_ble_eq_true rfl)) dX5_works_107 ⟨Nat.le_of_ble_eq_true rfl, Nat.le_of_ble_eq_true rfl⟩) rfl 1 rfl (by decide) (by decide) (fun H locs hP hS => ?_)
                obtain ⟨x683, ex683⟩ : ∃ z : Int32, z = v459 + (1 : Int32) := ⟨_, rfl⟩
                replace hf := nm_i hf ex683
                refine lv_iinc (v := x683) (lv' := [(3, .int x683), (2, .int x681), (4, .int x582), (0, .ref (g b)), (1, .int p0), (5, .int o467), (6, .int o469), (7, .int x472)]) hx hb dX5_works_110 hl (k := 4) rfl (by rw [ex683]; rfl) (by decide) rfl (fun ls hl => ?_)
                exact hK113_659 _ _ _ _ _ _ hf hP hS (lv_sub hl [3, 4, 1, 0, 2] rfl)
          clear eK82_632
          obtain ⟨K77_684, eK77_684, hf⟩ := jn_i hf
          have hK77_684 : ∀  (H : Heap) (locs : List Loc) (ls : Array Slot), K77_684  = some z462 → va_P D vwCl (List.flatten [wM cT g b u461]) H → va_S A s.heap H locs → lv_has ls 8 [(0, .ref (g b)), (1, .int p0), (2, .int v458), (3, .int v459), (5, .int o467), (6, .int o469), (7, .int x472)] → W p l e rm_X5_works s m args below meth c H locs 0 0 Q (F0 m 77 ls []) := by
            intro  H locs ls hf hP hS hl
            rw [eK77_684] at hf
            refine lv_iconst (v := 1) hx hb dX5_works_77 (by decide) ?_
            refine lv_goto (tgt := 82) hx hb dX5_works_78 (by decide) ?_
            exact hK82_632 _ _ _ _ hf hP hS (lv_sub hl [0, 1, 2, 3, 4, 5, 6] rfl)
          clear eK77_684
          refine lv_if_eq (tgt := 77) hx hb dX5_works_65 (by decide) (fun c685 => ?_) (fun c685 => ?_)
          · replace hf := it_t hf c685
            exact hK77_684  _ _ _ hf hP hS (lv_sub hl [1, 2, 3, 4, 5, 6, 0] rfl)
          · replace hf := it_f hf c685
            refine lv_iload hx hb dX5_works_68 (lv_at hl 6 rfl) ?_
            obtain ⟨o686, ho686, hf⟩ := bd_i hf
            refine cl_i [] [0] [wM cT g b u461] hP (va_D_adr hD rfl) hA hS (va_runS (As := [.int o469]) (rest := []) ⟨hx, hb, hml, hown, hts⟩ (c_X5_minutesFor l D cT g  fu  o469 o686 ho686 _) (va_cwS 1 hts gX5_works_X5_minutesFor rfl rfl rfl (by decide +kernel) ⟨Nat.le_of_ble_eq_true rfl, Nat.le_of_ble_eq_true rfl⟩) ⟨PRE_blind, PRE_ok [] (by decide) hP (va_D_adr hD rfl) hA hS hK hN hZ⟩ rfl rfl hl.1 rfl (lv_room (Nat.le_of_ble_eq_true rfl)) dX5_works_70 ⟨Nat.le_of_ble_eq_true rfl, Nat.le_of_ble_eq_true rfl⟩) rfl 1 rfl (by decide) (by decide) (fun H locs hP hS => ?_)
            refine lv_iload_n hx hb dX5_works_73 rfl (lv_at hl 3 rfl) ?_
            refine lv_icmp_gt (tgt := 81) hx hb dX5_works_74 (by decide) (fun c687 => ?_) (fun c687 => ?_)
            · replace hf := it_t hf c687
              refine lv_iconst (v := 0) hx hb dX5_works_81 (by decide) ?_
              exact hK82_632 _ _ _ _ hf hP hS (lv_sub hl [1, 2, 3, 4, 5, 6, 0] rfl)
            · replace hf := it_f hf c687
              exact hK77_684  _ _ _ hf hP hS (lv_sub hl [1, 2, 3, 4, 5, 6, 0] rfl)
        clear eK61_578
        refine lv_icmp_lt (tgt := 60) hx hb dX5_works_53 (by decide) (fun c688 => ?_) (fun c688 => ?_)
        · replace hf := it_t hf c688
          refine lv_iconst (v := 0) hx hb dX5_works_60 (by decide) ?_
          exact hK61_578 _ _ _ _ hf hP hS (lv_sub hl [2, 3, 4, 5, 1, 0] rfl)
        · replace hf := it_f hf c688
          refine lv_iconst (v := 1) hx hb dX5_works_56 (by decide) ?_
          refine lv_goto (tgt := 61) hx hb dX5_works_57 (by decide) ?_
          exact hK61_578 _ _ _ _ hf hP hS (lv_sub hl [2, 3, 4, 5, 1, 0] rfl)
  refine hL7 fu _ _ _ _ _ hz463 _ _ _ hP hS (lv_sub hl [3, 4, 2, 1, 0] rfl) (fun H locs ls hP hS hl => ?_)
  refine lv_aload_n hx hb dX5_works_153 rfl (lv_at hl 0 rfl) ?_
  refine va_get (ci := 5) (v := .ref (g (b + 1))) (C := RX5) (T := TX5) (N := 12) hx hb hts iw_X5_works_X5 hown hK hP 0 rfl rfl 0 (by decide) (hts (.fieldLink RX5 7 "BallastTrackModel" "s" "[I") (List.mem_of_getElem? (i := 1) rfl)) (fun _ h9 => h9) rfl dX5_works_154 ?_
  refine lv_bipush (v := 12) hx hb dX5_works_157 (by decide) ?_
  refine lv_dup2_11 hx hb dX5_works_159 rfl rfl ?_
  refine va_iald hx hb hK hP 1 0 rfl rfl (by unfold vp_in; decide) dX5_works_160 ?_
  refine lv_topi (fun x689 ex689 => ?_)
  replace hf := nm_i hf ex689
  refine lv_iload_n hx hb dX5_works_161 rfl (lv_at hl 1 rfl) ?_
  refine lv_iload_n hx hb dX5_works_162 rfl (lv_at hl 2 rfl) ?_
  refine lv_isub hx hb dX5_works_163 ?_
  refine lv_topi (fun x690 ex690 => ?_)
  replace hf := nm_i hf ex690
  refine lv_iadd hx hb dX5_works_164 ?_
  refine lv_topi (fun x691 ex691 => ?_)
  replace hf := nm_i hf ex691
  refine va_iast hx hb hK hP (va_D_adr hD rfl) hS 1 0 rfl rfl (by unfold vp_in; decide) dX5_works_165 (fun H locs hP _ hS => ?_)
  obtain ⟨u692, eu692⟩ : ∃ z : TM, z = M_ss_ z463.2.2 (upd (M_ss z463.2.2) 12 x691) := ⟨_, rfl⟩
  replace hf := nm_i hf eu692
  have hP : va_P D vwCl (List.flatten [wM cT g b u692]) H := by rw [eu692]; exact hP
  refine lv_iload_n hx hb dX5_works_166 rfl (lv_at hl 3 rfl) ?_
  obtain rfl := Option.some.inj hf
  subst hQ
  exact en_i hx hb hr hP hS hlocks dX5_works_167
theorem iw_X5_work_X5 : ∀ w ∈ u_ws RX5 TX5 12, w ∈ wsX5_work := by decide +kernel
def f_X5_work (fu : Nat) (u_mo : TM) (p0 : Int32) : Option (Int32 × TM) :=
bd (f_X5_in fu  p0 ((1 : Int32)) ((600 : Int32))) fun (o7 : Bool) =>
if ¬ bI o7 = 0 then (
nm (M_ss u_mo 16) fun (x9 : Int32) =>
if ¬ x9 = 0 then (
bd (f_X5_notes fu u_mo ) fun (o11 : TM) =>
bd (f_X5_works fu o11 p0) fun (o12 : Int32 × TM) =>
some (o12.1, o12.2)
)
else (
some ((-100002 : Int32), u_mo)
)
)
else (
some ((-100001 : Int32), u_mo)
)

abbrev rm_X5_work : Room := { frames := 3, cells := 0, slots := 0, locals := 70 }
set_option maxHeartbeats 4000000 in
set_option maxRecDepth 100000 in
theorem c_X5_work (l : Launch) (D : va_G) (cT : Nat → ClassId) (g : Nat → Nat) (b : Nat) (fu : Nat) (u_mo : TM) (p0 : Int32) (o : Int32 × TM) (hf : f_X5_work fu u_mo p0 = some o) (sz : Nat) : Met l yX5_work wsX5_work rm_X5_work (va_Pc [.ref (g b), .int p0] (PRE D cT sz (List.flatten [wM cT g b u_mo]))) (QI D o.1 (List.flatten [wM cT g b o.2]) (va_A (List.flatten [wM cT g b u_mo]) sz)) 0 0 (va_A (List.flatten [wM cT g b u_mo]) sz) := by
  refine Met.ofW (cc := cX5_work) (maxL := 2) (ret := (some .int)) (by decide) rfl ?_
  intro p e s m args below meth c s₁ B0 hml hv
  obtain ⟨hav, hsz, hP, hK, hD, hN, hZ⟩ := hv
  have hx := B0.exec
  have hb := B0.bytes
  have hr := B0.returns
  have hts := atoms_spec (ws := wsX5_work) B0.pre
  have hown : s.vm.findClass RX5 = some m.cls := findClass_of_methodNamed B0.named
  have hlocks := B0.notSynchronized
  subst hsz
  have hD := hD.self (sz := s.heap.size)
  have hA : ∀ q : Nat, s.heap.size ≤ q → va_A (List.flatten [wM cT g b u_mo]) s.heap.size q := fun q h => Or.inr h
  generalize va_A (List.flatten [wM cT g b u_mo]) s.heap.size = A at hD hZ hA ⊢
  have hS : va_S A s.heap s.heap [] := va_S.rf
  have hl := lv_entry ([.ref (g b), .int p0]) (n := 2) (Nat.le_of_ble_eq_true rfl)
  rw [hav]
  rw [lg_entry_eq]
  generalize (lg_sl ([.ref (g b), .int p0]) ++ List.replicate (2 - (lg_sl ([.ref (g b), .int p0])).length) Slot.unset).toArray = ls at hl ⊢
  have hl : lv_has ls 2 [(0, .ref (g b)), (1, .int p0)] := hl
  rw [← hav]
  generalize hQ : MQ below _ _ _ _ _ _ = Q
  show W p l e rm_X5_work s m args below meth c s.heap [] 0 0 Q (F0 m 0 ls [])
  unfold f_X5_work at hf
  refine lv_iload_n hx hb dX5_work_0 rfl (lv_at hl 1 rfl) ?_
  refine lv_iconst (v := 1) hx hb dX5_work_1 (by decide) ?_
  refine lv_sipush (v := 600) hx hb dX5_work_2 (by decide) ?_
  obtain ⟨o7, ho7, hf⟩ := bd_i hf
  refine cl_i [] [0] [wM cT g b u_mo] hP (va_D_adr hD rfl) hA hS (va_runS (As := [.int p0, .int ((1 : Int32)), .int ((600 : Int32))]) (rest := []) ⟨hx, hb, hml, hown, hts⟩ (c_X5_in l D cT g  fu  p0 ((1 : Int32)) ((600 : Int32)) o7 ho7 _) (va_cwS 3 hts gX5_work_X5_in rfl rfl rfl (by decide +kernel) ⟨Nat.le_of_ble_eq_true rfl, Nat.le_of_ble_eq_true rfl⟩) ⟨PRE_blind, PRE_ok [] (by decide) hP (va_D_adr hD rfl) hA hS hK hN hZ⟩ rfl rfl hl.1 rfl (lv_room (Nat.le_of_ble_eq_true rfl)) dX5_work_5 ⟨Nat.le_of_ble_eq_true rfl, Nat.le_of_ble_eq_true rfl⟩) rfl 1 rfl (by decide) (by decide) (fun H locs hP hS => ?_)
  refine lv_if_ne (tgt := 14) hx hb dX5_work_8 (by decide) (fun c8 => ?_) (fun c8 => ?_)
  · replace hf := it_t hf c8
    refine lv_aload_n hx hb dX5_work_14 rfl (lv_at hl 0 rfl) ?_
    refine va_get (ci := 5) (v := .ref (g (b + 1))) (C := RX5) (T := TX5) (N := 12) hx hb hts iw_X5_work_X5 hown hK hP 0 rfl rfl 0 (by decide) (hts (.fieldLink RX5 7 "BallastTrackModel" "s" "[I") (List.mem_of_getElem? (i := 2) rfl)) (fun _ h9 => h9) rfl dX5_work_15 ?_
    refine lv_bipush (v := 16) hx hb dX5_work_18 (by decide) ?_
    refine va_iald hx hb hK hP 1 0 rfl rfl (by unfold vp_in; decide) dX5_work_20 ?_
    refine lv_topi (fun x9 ex9 => ?_)
    replace hf := nm_i hf ex9
    refine lv_if_ne (tgt := 27) hx hb dX5_work_21 (by decide) (fun c10 => ?_) (fun c10 => ?_)
    · replace hf := it_t hf c10
      refine lv_aload_n hx hb dX5_work_27 rfl (lv_at hl 0 rfl) ?_
      obtain ⟨o11, ho11, hf⟩ := bd_i hf
      refine cl_v [0] [] [wM cT g b o11] hP (va_D_adr hD rfl) hA hS (va_runV (As := []) (rest := []) ⟨hx, hb, hml, hown, hts⟩ (c_X5_notes l D cT g b fu u_mo  o11 ho11 _) (cwV 0 hts gX5_work_X5_notes rfl rfl rfl (by decide +kernel) ⟨Nat.le_of_ble_eq_true rfl, Nat.le_of_ble_eq_true rfl⟩) ⟨PRE_blind, va_recv hK hP (ci := 5) (q0 := 0) rfl rfl, PRE_ok [0] (by decide) hP (va_D_adr hD rfl) hA hS hK hN hZ⟩ rfl rfl hl.1 rfl (lv_room (Nat.le_of_ble_eq_true rfl)) dX5_work_28 ⟨Nat.le_of_ble_eq_true rfl, Nat.le_of_ble_eq_true rfl⟩) rfl 1 rfl (by decide) (by decide) (fun H locs hP hS => ?_)
      refine lv_aload_n hx hb dX5_work_31 rfl (lv_at hl 0 rfl) ?_
      refine lv_iload_n hx hb dX5_work_32 rfl (lv_at hl 1 rfl) ?_
      obtain ⟨o12, ho12, hf⟩ := bd_i hf
      refine cl_i [0] [] [wM cT g b o12.2] hP (va_D_adr hD rfl) hA hS (va_runV (As := [.int p0]) (rest := []) ⟨hx, hb, hml, hown, hts⟩ (c_X5_works l D cT g b fu o11 p0 o12 ho12 _) (cwV 1 hts gX5_work_X5_works rfl rfl rfl (by decide +kernel) ⟨Nat.le_of_ble_eq_true rfl, Nat.le_of_ble_eq_true rfl⟩) ⟨PRE_blind, va_recv hK hP (ci := 5) (q0 := 0) rfl rfl, PRE_ok [0] (by decide) hP (va_D_adr hD rfl) hA hS hK hN hZ⟩ rfl rfl hl.1 rfl (lv_room (Nat.le_of_ble_eq_true rfl)) dX5_work_33 ⟨Nat.le_of_ble_eq_true rfl, Nat.le_of_ble_eq_true rfl⟩) rfl 1 rfl (by decide) (by decide) (fun H locs hP hS => ?_)
      obtain rfl := Option.some.inj hf
      subst hQ
      exact en_i hx hb hr hP hS hlocks dX5_work_36
    · replace hf := it_f hf (not_not_intro c10)
      refine lv_ldc (v := -100002) hx hb hown (hts (.constant RX5 36 (-100002)) (List.mem_of_getElem? (i := 3) rfl)) dX5_work_24 ?_
      obtain rfl := Option.some.inj hf
      subst hQ
      exact en_i hx hb hr hP hS hlocks dX5_work_26
  · replace hf := it_f hf (not_not_intro c8)
    refine lv_ldc (v := -100001) hx hb hown (hts (.constant RX5 68 (-100001)) (List.mem_of_getElem? (i := 1) rfl)) dX5_work_11 ?_
    obtain rfl := Option.some.inj hf
    subst hQ
    exact en_i hx hb hr hP hS hlocks dX5_work_13
theorem iw_X5_passes_X5 : ∀ w ∈ u_ws RX5 TX5 12, w ∈ wsX5_passes := by decide +kernel
def lb_X5_passes_30 (fu : Nat)  (rec : Int32 → TM → Option (TM)) (v603 : Int32) (u604 : TM) : Option (TM) :=
nm (M_ss u604 0) fun (x607 : Int32) =>
if x607 ≤ v603 then (
some (u604)
)
else (
bd (f_X5_hangs fu u604 v603) fun (o609 : Bool) =>
jn (fun (u621 : TM) =>
nm (v603 + (1 : Int32)) fun (x624 : Int32) =>
rec x624 u621
) fun K85_623 =>
if bI o609 = 0 then (
K85_623 u604
)
else (
nm ((101 : Int32) + v603) fun (x626 : Int32) =>
nm ((101 : Int32) + v603) fun (x627 : Int32) =>
ix x627 281 <|
nm ((M_ss u604) x627.toNatClampNeg) fun (x629 : Int32) =>
nm (x629 + (1 : Int32)) fun (x630 : Int32) =>
bd (f_X5_lesser fu  ((100 : Int32)) x630) fun (o631 : Int32) =>
ix x626 281 <|
nm (M_ss_ u604 (upd (M_ss u604) x626.toNatClampNeg o631)) fun (u633 : TM) =>
ix v603 60 <|
nm (M_lo_ u633 (upd (M_lo u633) v603.toNatClampNeg ((-1 : Int32)))) fun (u635 : TM) =>
K85_623 u635
)
)

def lf_X5_passes_30 (fu : Nat)  : Nat → Int32 → TM → Option (TM) := lq_2 (lb_X5_passes_30 fu )
def lb_X5_passes_94 (fu : Nat) (p0 : Int32) (p1 : Int32) (x384 : Int32) (rec : Int32 → TM → Option (TM)) (v761 : Int32) (u762 : TM) : Option (TM) :=
nm (M_ss u762 0) fun (x765 : Int32) =>
if x765 ≤ v761 then (
some (u762)
)
else (
ix v761 60 <|
nm ((M_lo u762) v761.toNatClampNeg) fun (x768 : Int32) =>
jn (fun (u827 : TM) =>
nm (v761 + (1 : Int32)) fun (x830 : Int32) =>
rec x830 u827
) fun K232_829 =>
if x768 < 0 then (
K232_829 u762
)
else (
nm (p0.toInt64) fun (y832 : Int64) =>
nm (p1.toInt64) fun (y833 : Int64) =>
nm (y832 * y833) fun (y834 : Int64) =>
ix v761 60 <|
nm ((M_lo u762) v761.toNatClampNeg) fun (x836 : Int32) =>
nm (x836.toInt64) fun (y837 : Int64) =>
nm (y834 * y837) fun (y838 : Int64) =>
nm ((101 : Int32) + v761) fun (x839 : Int32) =>
ix x839 281 <|
nm ((M_ss u762) x839.toNatClampNeg) fun (x841 : Int32) =>
nm ((100 : Int32) + x841) fun (x842 : Int32) =>
nm (x842.toInt64) fun (y843 : Int64) =>
nm (y838 * y843) fun (y844 : Int64) =>
nm (x384.toInt64) fun (y845 : Int64) =>
nm (y844 * y845) fun (y846 : Int64) =>
nm (y846 / (4000000 : Int64)) fun (y847 : Int64) =>
nm ((41 : Int32) + v761) fun (x848 : Int32) =>
ix x848 281 <|
nm ((M_ss u762) x848.toNatClampNeg) fun (x850 : Int32) =>
nm (x850.toInt64) fun (y851 : Int64) =>
nm (y851 - (-9999 : Int64)) fun (y852 : Int64) =>
nm (lg_cmp y847 y852) fun (x853 : Int32) =>
jn (fun (x855 : Int64) =>
nm (x855.toInt32) fun (x873 : Int32) =>
nm ((41 : Int32) + v761) fun (x874 : Int32) =>
ix x874 281 <|
nm ((M_ss u762) x874.toNatClampNeg) fun (x876 : Int32) =>
nm (x876 - x873) fun (x877 : Int32) =>
ix x874 281 <|
nm (M_ss_ u762 (upd (M_ss u762) x874.toNatClampNeg x877)) fun (u879 : TM) =>
nm ((161 : Int32) + v761) fun (x880 : Int32) =>
ix x880 281 <|
nm ((M_ss u879) x880.toNatClampNeg) fun (x882 : Int32) =>
nm (x882 + x873) fun (x883 : Int32) =>
ix x880 281 <|
nm (M_ss_ u879 (upd (M_ss u879) x880.toNatClampNeg x883)) fun (u885 : TM) =>
nm (M_ss u885 9) fun (x886 : Int32) =>
nm (x886 + x873) fun (x887 : Int32) =>
nm (M_ss_ u885 (upd (M_ss u885) 9 x887)) fun (u888 : TM) =>
K232_829 u888
) fun K186_872 =>
if 0 ≤ x853 then (
K186_872 y852
)
else (
K186_872 y847
)
)
)

def lf_X5_passes_94 (fu : Nat) (p0 : Int32) (p1 : Int32) (x384 : Int32) : Nat → Int32 → TM → Option (TM) := lq_2 (lb_X5_passes_94 fu p0 p1 x384)
def f_X5_passes (fu : Nat) (u_mo : TM) (p0 : Int32) (p1 : Int32) (p2 : Int32) : Option (TM) :=
bd (f_X5_laysLoads fu u_mo ) fun (o381 : TM) =>
jn (fun (x384 : Int32) =>
bd (lf_X5_passes_30 fu  fu ((0 : Int32)) o381) fun (z606 : TM) =>
bd (lf_X5_passes_94 fu p0 p1 x384 fu ((0 : Int32)) z606) fun (z764 : TM) =>
nm (M_ss z764 11) fun (x890 : Int32) =>
jn (fun (x893 : Int32) =>
nm (x890 + x893) fun (x905 : Int32) =>
nm (M_ss_ z764 (upd (M_ss z764) 11 x905)) fun (u906 : TM) =>
nm (M_ss u906 13) fun (x907 : Int32) =>
nm (x907 + (1 : Int32)) fun (x908 : Int32) =>
nm (M_ss_ u906 (upd (M_ss u906) 13 x908)) fun (u909 : TM) =>
nm (M_ss u909 14) fun (x910 : Int32) =>
nm (p0 * p1) fun (x911 : Int32) =>
nm (x910 + x911) fun (x912 : Int32) =>
nm (M_ss_ u909 (upd (M_ss u909) 14 x912)) fun (u913 : TM) =>
bd (f_X5_laysRail fu u913 ) fun (o914 : TM) =>
some (o914)
) fun K265_904 =>
if ¬ p2 = 0 then (
if ¬ p2 = (1 : Int32) then (
K265_904 ((6 : Int32))
)
else (
K265_904 ((2 : Int32))
)
)
else (
K265_904 ((0 : Int32))
)
) fun K25_572 =>
if ¬ p2 = 0 then (
if ¬ p2 = (1 : Int32) then (
K25_572 ((40 : Int32))
)
else (
K25_572 ((70 : Int32))
)
)
else (
K25_572 ((100 : Int32))
)

abbrev rm_X5_passes : Room := { frames := 4, cells := 0, slots := 0, locals := 89 }
set_option maxHeartbeats 4000000 in
set_option maxRecDepth 100000 in
theorem c_X5_passes (l : Launch) (D : va_G) (cT : Nat → ClassId) (g : Nat → Nat) (b : Nat) (fu : Nat) (u_mo : TM) (p0 : Int32) (p1 : Int32) (p2 : Int32) (o : TM) (hf : f_X5_passes fu u_mo p0 p1 p2 = some o) (sz : Nat) : Met l yX5_passes wsX5_passes rm_X5_passes (va_Pc [.ref (g b), .int p0, .int p1, .int p2] (PRE D cT sz (List.flatten [wM cT g b u_mo]))) (QV D (List.flatten [wM cT g b o]) (va_A (List.flatten [wM cT g b u_mo]) sz)) 0 0 (va_A (List.flatten [wM cT g b u_mo]) sz) := by
  refine Met.ofW (cc := cX5_passes) (maxL := 11) (ret := none) (by decide) rfl ?_
  intro p e s m args below meth c s₁ B0 hml hv
  obtain ⟨hav, hsz, hP, hK, hD, hN, hZ⟩ := hv
  have hx := B0.exec
  have hb := B0.bytes
  have hr := B0.returns
  have hts := atoms_spec (ws := wsX5_passes) B0.pre
  have hown : s.vm.findClass RX5 = some m.cls := findClass_of_methodNamed B0.named
  have hlocks := B0.notSynchronized
  subst hsz
  have hD := hD.self (sz := s.heap.size)
  have hA : ∀ q : Nat, s.heap.size ≤ q → va_A (List.flatten [wM cT g b u_mo]) s.heap.size q := fun q h => Or.inr h
  generalize va_A (List.flatten [wM cT g b u_mo]) s.heap.size = A at hD hZ hA ⊢
  have hS : va_S A s.heap s.heap [] := va_S.rf
  have hl := lv_entry ([.ref (g b), .int p0, .int p1, .int p2]) (n := 11) (Nat.le_of_ble_eq_true rfl)
  rw [hav]
  rw [lg_entry_eq]
  generalize (lg_sl ([.ref (g b), .int p0, .int p1, .int p2]) ++ List.replicate (11 - (lg_sl ([.ref (g b), .int p0, .int p1, .int p2])).length) Slot.unset).toArray = ls at hl ⊢
  have hl : lv_has ls 11 [(0, .ref (g b)), (1, .int p0), (2, .int p1), (3, .int p2)] := hl
  rw [← hav]
  generalize hQ : MQ below _ _ _ _ _ _ = Q
  show W p l e rm_X5_passes s m args below meth c s.heap [] 0 0 Q (F0 m 0 ls [])
  unfold f_X5_passes at hf
  refine lv_aload_n hx hb dX5_passes_0 rfl (lv_at hl 0 rfl) ?_
  obtain ⟨o381, ho381, hf⟩ := bd_i hf
  refine cl_v [0] [] [wM cT g b o381] hP (va_D_adr hD rfl) hA hS (va_runV (As := []) (rest := []) ⟨hx, hb, hml, hown, hts⟩ (c_X5_laysLoads l D cT g b fu u_mo  o381 ho381 _) (cwV 0 hts gX5_passes_X5_laysLoads rfl rfl rfl (by decide +kernel) ⟨Nat.le_of_ble_eq_true rfl, Nat.le_of_ble_eq_true rfl⟩) ⟨PRE_blind, va_recv hK hP (ci := 5) (q0 := 0) rfl rfl, PRE_ok [0] (by decide) hP (va_D_adr hD rfl) hA hS hK hN hZ⟩ rfl rfl hl.1 rfl (lv_room (Nat.le_of_ble_eq_true rfl)) dX5_passes_1 ⟨Nat.le_of_ble_eq_true rfl, Nat.le_of_ble_eq_true rfl⟩) rfl 1 rfl (by decide) (by decide) (fun H locs hP hS => ?_)
  refine lv_iload_n hx hb dX5_passes_4 rfl (lv_at hl 3 rfl) ?_
  obtain ⟨K25_572, eK25_572, hf⟩ := jn_i hf
  have hK25_572 : ∀ (x384 : Int32) (H : Heap) (locs : List Loc) (ls : Array Slot), K25_572 x384 = some o → va_P D vwCl (List.flatten [wM cT g b o381]) H → va_S A s.heap H locs → lv_has ls 11 [(0, .ref (g b)), (1, .int p0), (2, .int p1), (3, .int p2)] → W p l e rm_X5_passes s m args below meth c H locs 0 0 Q (F0 m 25 ls [.int x384]) := by
    intro x384 H locs ls hf hP hS hl
    rw [eK25_572] at hf
    refine lv_istore (lv' := [(4, .int x384), (0, .ref (g b)), (1, .int p0), (2, .int p1), (3, .int p2)]) hx hb dX5_passes_25 hl (by decide) rfl (fun ls hl => ?_)
    refine lv_iconst (v := 0) hx hb dX5_passes_27 (by decide) ?_
    refine lv_istore (lv' := [(5, .int ((0 : Int32))), (4, .int x384), (0, .ref (g b)), (1, .int p0), (2, .int p1), (3, .int p2)]) hx hb dX5_passes_28 hl (by decide) rfl (fun ls hl => ?_)
    obtain ⟨z606, hz606, hf⟩ := bd_i hf
    have hL30 : ∀ (n : Nat) (v603 : Int32) (u604 : TM) (z605 : TM), lf_X5_passes_30 fu  n v603 u604 = some z605 → ∀ (H : Heap) (locs : List Loc) (ls : Array Slot), va_P D vwCl (List.flatten [wM cT g b u604]) H → va_S A s.heap H locs → lv_has ls 11 [(0, .ref (g b)), (1, .int p0), (2, .int p1), (3, .int p2), (4, .int x384), (5, .int v603)] → (∀ (H : Heap) (locs : List Loc) (ls : Array Slot), va_P D vwCl (List.flatten [wM cT g b z605]) H → va_S A s.heap H locs → lv_has ls 11 [(0, .ref (g b)), (1, .int p0), (2, .int p1), (3, .int p2), (4, .int x384)] → W p l e rm_X5_passes s m args below meth c H locs 0 0 Q (F0 m 91 ls [])) → W p l e rm_X5_passes s m args below meth c H locs 0 0 Q (F0 m 30 ls []) := by
      refine lq_2_ind (F := lb_X5_passes_30 fu ) (fun rec ih v603 u604 z605 hf H locs ls hP hS hl kx => ?_)
      unfold lb_X5_passes_30 at hf
      refine lv_iload hx hb dX5_passes_30 (lv_at hl 5 rfl) ?_
      refine lv_aload_n hx hb dX5_passes_32 rfl (lv_at hl 0 rfl) ?_
      refine va_get (ci := 5) (v := .ref (g (b + 1))) (C := RX5) (T := TX5) (N := 12) hx hb hts iw_X5_passes_X5 hown hK hP 0 rfl rfl 0 (by decide) (hts (.fieldLink RX5 7 "BallastTrackModel" "s" "[I") (List.mem_of_getElem? (i := 1) rfl)) (fun _ h9 => h9) rfl dX5_passes_33 ?_
      refine lv_iconst (v := 0) hx hb dX5_passes_36 (by decide) ?_
      refine va_iald hx hb hK hP 1 0 rfl rfl (by unfold vp_in; decide) dX5_passes_37 ?_
      refine lv_topi (fun x607 ex607 => ?_)
      replace hf := nm_i hf ex607
      refine lv_icmp_ge (tgt := 91) hx hb dX5_passes_38 (by decide) (fun c608 => ?_) (fun c608 => ?_)
      · replace hf := it_t hf c608
        obtain rfl := Option.some.inj hf
        exact kx _ _ _ hP hS (lv_sub hl [0, 1, 2, 3, 4] rfl)
      · replace hf := it_f hf c608
        refine lv_aload_n hx hb dX5_passes_41 rfl (lv_at hl 0 rfl) ?_
        refine lv_iload hx hb dX5_passes_42 (lv_at hl 5 rfl) ?_
        obtain ⟨o609, ho609, hf⟩ := bd_i hf
        refine cl_i [0] [] [wM cT g b u604] hP (va_D_adr hD rfl) hA hS (va_runV (As := [.int v603]) (rest := []) ⟨hx, hb, hml, hown, hts⟩ (c_X5_hangs l D cT g b fu u604 v603 o609 ho609 _) (cwV 1 hts gX5_passes_X5_hangs rfl rfl rfl (by decide +kernel) ⟨Nat.le_of_ble_eq_true rfl, Nat.le_of_ble_eq_true rfl⟩) ⟨PRE_blind, va_recv hK hP (ci := 5) (q0 := 0) rfl rfl, PRE_ok [0] (by decide) hP (va_D_adr hD rfl) hA hS hK hN hZ⟩ rfl rfl hl.1 rfl (lv_room (Nat.le_of_ble_eq_true rfl)) dX5_passes_44 ⟨Nat.le_of_ble_eq_true rfl, Nat.le_of_ble_eq_true rfl⟩) rfl 1 rfl (by decide) (by decide) (fun H locs hP hS => ?_)
        obtain ⟨K85_623, eK85_623, hf⟩ := jn_i hf
        have hK85_623 : ∀ (u621 : TM) (H : Heap) (locs : List Loc) (ls : Array Slot), K85_623 u621 = some z605 → va_P D vwCl (List.flatten [wM cT g b u621]) H → va_S A s.heap H locs → lv_has ls 11 [(0, .ref (g b)), (1, .int p0), (2, .int p1), (3, .int p2), (4, .int x384), (5, .int v603)] → W p l e rm_X5_passes s m args below meth c H locs 0 0 Q (F0 m 85 ls []) := by
          intro u621 H locs ls hf hP hS hl
          rw [eK85_623] at hf
          obtain ⟨x624, ex624⟩ : ∃ z : Int32, z = v603 + (1 : Int32) := ⟨_, rfl⟩
          replace hf := nm_i hf ex624
          refine lv_iinc (v := x624) (lv' := [(5, .int x624), (0, .ref (g b)), (1, .int p0), (2, .int p1), (3, .int p2), (4, .int x384)]) hx hb dX5_passes_85 hl (k := 5) rfl (by rw [ex624]; rfl) (by decide) rfl (fun ls hl => ?_)
          refine lv_goto (tgt := 30) hx hb dX5_passes_88 (by decide) ?_
          exact ih _ _ _ hf _ _ _ hP hS (lv_sub hl [1, 2, 3, 4, 5, 0] rfl) kx
        clear eK85_623
        refine lv_if_eq (tgt := 85) hx hb dX5_passes_47 (by decide) (fun c625 => ?_) (fun c625 => ?_)
        · replace hf := it_t hf c625
          exact hK85_623 _ _ _ _ hf hP hS (lv_sub hl [0, 1, 2, 3, 4, 5] rfl)
        · replace hf := it_f hf c625
          refine lv_aload_n hx hb dX5_passes_50 rfl (lv_at hl 0 rfl) ?_
          refine va_get (ci := 5) (v := .ref (g (b + 1))) (C := RX5) (T := TX5) (N := 12) hx hb hts iw_X5_passes_X5 hown hK hP 0 rfl rfl 0 (by decide) (hts (.fieldLink RX5 7 "BallastTrackModel" "s" "[I") (List.mem_of_getElem? (i := 1) rfl)) (fun _ h9 => h9) rfl dX5_passes_51 ?_
          refine lv_bipush (v := 101) hx hb dX5_passes_54 (by decide) ?_
          refine lv_iload hx hb dX5_passes_56 (lv_at hl 5 rfl) ?_
          refine lv_iadd hx hb dX5_passes_58 ?_
          refine lv_topi (fun x626 ex626 => ?_)
          replace hf := nm_i hf ex626
          refine lv_bipush (v := 100) hx hb dX5_passes_59 (by decide) ?_
          refine lv_aload_n hx hb dX5_passes_61 rfl (lv_at hl 0 rfl) ?_
          refine va_get (ci := 5) (v := .ref (g (b + 1))) (C := RX5) (T := TX5) (N := 12) hx hb hts iw_X5_passes_X5 hown hK hP 0 rfl rfl 0 (by decide) (hts (.fieldLink RX5 7 "BallastTrackModel" "s" "[I") (List.mem_of_getElem? (i := 1) rfl)) (fun _ h9 => h9) rfl dX5_passes_62 ?_
          refine lv_bipush (v := 101) hx hb dX5_passes_65 (by decide) ?_
          refine lv_iload hx hb dX5_passes_67 (lv_at hl 5 rfl) ?_
          refine lv_iadd hx hb dX5_passes_69 ?_
          refine lv_topi (fun x627 ex627 => ?_)
          replace hf := nm_i hf ex627
          obtain ⟨hi628, hf⟩ := ix_i hf
          refine va_iald hx hb hK hP 1 0 rfl rfl hi628 dX5_passes_70 ?_
          refine lv_topi (fun x629 ex629 => ?_)
          replace hf := nm_i hf ex629
          refine lv_iconst (v := 1) hx hb dX5_passes_71 (by decide) ?_
          refine lv_iadd hx hb dX5_passes_72 ?_
          refine lv_topi (fun x630 ex630 => ?_)
          replace hf := nm_i hf ex630
          obtain ⟨o631, ho631, hf⟩ := bd_i hf
          refine cl_i [] [0] [wM cT g b u604] hP (va_D_adr hD rfl) hA hS (va_runS (As := [.int ((100 : Int32)), .int x630]) (rest := [.int x626, .ref (g (b + 1))]) ⟨hx, hb, hml, hown, hts⟩ (c_X5_lesser l D cT g  fu  ((100 : Int32)) x630 o631 ho631 _) (va_cwS 2 hts gX5_passes_X5_lesser rfl rfl rfl (by decide +kernel) ⟨Nat.le_of_ble_eq_true rfl, Nat.le_of_ble_eq_true rfl⟩) ⟨PRE_blind, PRE_ok [] (by decide) hP (va_D_adr hD rfl) hA hS hK hN hZ⟩ rfl rfl hl.1 rfl (lv_room (Nat.le_of_ble_eq_true rfl)) dX5_passes_73 ⟨Nat.le_of_ble_eq_true rfl, Nat.le_of_ble_eq_true rfl⟩) rfl 1 rfl (by decide) (by decide) (fun H locs hP hS => ?_)
          obtain ⟨hi632, hf⟩ := ix_i hf
          refine va_iast hx hb hK hP (va_D_adr hD rfl) hS 1 0 rfl rfl hi632 dX5_passes_76 (fun H locs hP _ hS => ?_)
          obtain ⟨u633, eu633⟩ : ∃ z : TM, z = M_ss_ u604 (upd (M_ss u604) x626.toNatClampNeg o631) := ⟨_, rfl⟩
          replace hf := nm_i hf eu633
          have hP : va_P D vwCl (List.flatten [wM cT g b u633]) H := by rw [eu633]; exact hP
          refine lv_aload_n hx hb dX5_passes_77 rfl (lv_at hl 0 rfl) ?_
          refine va_get (ci := 5) (v := .ref (g (b + 7))) (C := RX5) (T := TX5) (N := 12) hx hb hts iw_X5_passes_X5 hown hK hP 0 rfl rfl 9 (by decide) (hts (.fieldLink RX5 29 "BallastTrackModel" "load" "[I") (List.mem_of_getElem? (i := 2) rfl)) (fun _ h9 => h9) rfl dX5_passes_78 ?_
          refine lv_iload hx hb dX5_passes_81 (lv_at hl 5 rfl) ?_
          refine lv_iconst (v := -1) hx hb dX5_passes_83 (by decide) ?_
          obtain ⟨hi634, hf⟩ := ix_i hf
          refine va_iast hx hb hK hP (va_D_adr hD rfl) hS 7 0 rfl rfl hi634 dX5_passes_84 (fun H locs hP _ hS => ?_)
          obtain ⟨u635, eu635⟩ : ∃ z : TM, z = M_lo_ u633 (upd (M_lo u633) v603.toNatClampNeg ((-1 : Int32))) := ⟨_, rfl⟩
          replace hf := nm_i hf eu635
          have hP : va_P D vwCl (List.flatten [wM cT g b u635]) H := by rw [eu635]; exact hP
          exact hK85_623 _ _ _ _ hf hP hS (lv_sub hl [0, 1, 2, 3, 4, 5] rfl)
    refine hL30 fu _ _ _ hz606 _ _ _ hP hS (lv_sub hl [2, 3, 4, 5, 1, 0] rfl) (fun H locs ls hP hS hl => ?_)
    refine lv_iconst (v := 0) hx hb dX5_passes_91 (by decide) ?_
    refine lv_istore (lv' := [(5, .int ((0 : Int32))), (0, .ref (g b)), (1, .int p0), (2, .int p1), (3, .int p2), (4, .int x384)]) hx hb dX5_passes_92 hl (by decide) rfl (fun ls hl => ?_)
    obtain ⟨z764, hz764, hf⟩ := bd_i hf
    have hL94 : ∀ (n : Nat) (v761 : Int32) (u762 : TM) (z763 : TM), lf_X5_passes_94 fu p0 p1 x384 n v761 u762 = some z763 → ∀ (H : Heap) (locs : List Loc) (ls : Array Slot), va_P D vwCl (List.flatten [wM cT g b u762]) H → va_S A s.heap H locs → lv_has ls 11 [(0, .ref (g b)), (1, .int p0), (2, .int p1), (3, .int p2), (4, .int x384), (5, .int v761)] → (∀ (H : Heap) (locs : List Loc) (ls : Array Slot), va_P D vwCl (List.flatten [wM cT g b z763]) H → va_S A s.heap H locs → lv_has ls 11 [(0, .ref (g b)), (1, .int p0), (2, .int p1), (3, .int p2)] → W p l e rm_X5_passes s m args below meth c H locs 0 0 Q (F0 m 238 ls [])) → W p l e rm_X5_passes s m args below meth c H locs 0 0 Q (F0 m 94 ls []) := by
      refine lq_2_ind (F := lb_X5_passes_94 fu p0 p1 x384) (fun rec ih v761 u762 z763 hf H locs ls hP hS hl kx => ?_)
      unfold lb_X5_passes_94 at hf
      refine lv_iload hx hb dX5_passes_94 (lv_at hl 5 rfl) ?_
      refine lv_aload_n hx hb dX5_passes_96 rfl (lv_at hl 0 rfl) ?_
      refine va_get (ci := 5) (v := .ref (g (b + 1))) (C := RX5) (T := TX5) (N := 12) hx hb hts iw_X5_passes_X5 hown hK hP 0 rfl rfl 0 (by decide) (hts (.fieldLink RX5 7 "BallastTrackModel" "s" "[I") (List.mem_of_getElem? (i := 1) rfl)) (fun _ h9 => h9) rfl dX5_passes_97 ?_
      refine lv_iconst (v := 0) hx hb dX5_passes_100 (by decide) ?_
      refine va_iald hx hb hK hP 1 0 rfl rfl (by unfold vp_in; decide) dX5_passes_101 ?_
      refine lv_topi (fun x765 ex765 => ?_)
      replace hf := nm_i hf ex765
      refine lv_icmp_ge (tgt := 238) hx hb dX5_passes_102 (by decide) (fun c766 => ?_) (fun c766 => ?_)
      · replace hf := it_t hf c766
        obtain rfl := Option.some.inj hf
        exact kx _ _ _ hP hS (lv_sub hl [0, 1, 2, 3] rfl)
      · replace hf := it_f hf c766
        refine lv_aload_n hx hb dX5_passes_105 rfl (lv_at hl 0 rfl) ?_
        refine va_get (ci := 5) (v := .ref (g (b + 7))) (C := RX5) (T := TX5) (N := 12) hx hb hts iw_X5_passes_X5 hown hK hP 0 rfl rfl 9 (by decide) (hts (.fieldLink RX5 29 "BallastTrackModel" "load" "[I") (List.mem_of_getElem? (i := 2) rfl)) (fun _ h9 => h9) rfl dX5_passes_106 ?_
        refine lv_iload hx hb dX5_passes_109 (lv_at hl 5 rfl) ?_
        obtain ⟨hi767, hf⟩ := ix_i hf
        refine va_iald hx hb hK hP 7 0 rfl rfl hi767 dX5_passes_111 ?_
        refine lv_topi (fun x768 ex768 => ?_)
        replace hf := nm_i hf ex768
        obtain ⟨K232_829, eK232_829, hf⟩ := jn_i hf
        have hK232_829 : ∀ (u827 : TM) (H : Heap) (locs : List Loc) (ls : Array Slot), K232_829 u827 = some z763 → va_P D vwCl (List.flatten [wM cT g b u827]) H → va_S A s.heap H locs → lv_has ls 11 [(0, .ref (g b)), (1, .int p0), (2, .int p1), (3, .int p2), (4, .int x384), (5, .int v761)] → W p l e rm_X5_passes s m args below meth c H locs 0 0 Q (F0 m 232 ls []) := by
          intro u827 H locs ls hf hP hS hl
          rw [eK232_829] at hf
          obtain ⟨x830, ex830⟩ : ∃ z : Int32, z = v761 + (1 : Int32) := ⟨_, rfl⟩
          replace hf := nm_i hf ex830
          refine lv_iinc (v := x830) (lv' := [(5, .int x830), (0, .ref (g b)), (1, .int p0), (2, .int p1), (3, .int p2), (4, .int x384)]) hx hb dX5_passes_232 hl (k := 5) rfl (by rw [ex830]; rfl) (by decide) rfl (fun ls hl => ?_)
          refine lv_goto (tgt := 94) hx hb dX5_passes_235 (by decide) ?_
          exact ih _ _ _ hf _ _ _ hP hS (lv_sub hl [1, 2, 3, 4, 5, 0] rfl) kx
        clear eK232_829
        refine lv_if_lt (tgt := 232) hx hb dX5_passes_112 (by decide) (fun c831 => ?_) (fun c831 => ?_)
        · replace hf := it_t hf c831
          exact hK232_829 _ _ _ _ hf hP hS (lv_sub hl [0, 1, 2, 3, 4, 5] rfl)
        · replace hf := it_f hf c831
          refine lv_iload_n hx hb dX5_passes_115 rfl (lv_at hl 1 rfl) ?_
          refine lv_i2l (v := p0.toInt64) hx hb dX5_passes_116 rfl ?_
          refine lv_topl (fun y832 ey832 => ?_)
          replace hf := nm_i hf ey832
          refine lv_iload_n hx hb dX5_passes_117 rfl (lv_at hl 2 rfl) ?_
          refine lv_i2l (v := p1.toInt64) hx hb dX5_passes_118 rfl ?_
          refine lv_topl (fun y833 ey833 => ?_)
          replace hf := nm_i hf ey833
          refine lv_lmul hx hb dX5_passes_119 ?_
          refine lv_topl (fun y834 ey834 => ?_)
          replace hf := nm_i hf ey834
          refine lv_aload_n hx hb dX5_passes_120 rfl (lv_at hl 0 rfl) ?_
          refine va_get (ci := 5) (v := .ref (g (b + 7))) (C := RX5) (T := TX5) (N := 12) hx hb hts iw_X5_passes_X5 hown hK hP 0 rfl rfl 9 (by decide) (hts (.fieldLink RX5 29 "BallastTrackModel" "load" "[I") (List.mem_of_getElem? (i := 2) rfl)) (fun _ h9 => h9) rfl dX5_passes_121 ?_
          refine lv_iload hx hb dX5_passes_124 (lv_at hl 5 rfl) ?_
          obtain ⟨hi835, hf⟩ := ix_i hf
          refine va_iald hx hb hK hP 7 0 rfl rfl hi835 dX5_passes_126 ?_
          refine lv_topi (fun x836 ex836 => ?_)
          replace hf := nm_i hf ex836
          refine lv_i2l (v := x836.toInt64) hx hb dX5_passes_127 rfl ?_
          refine lv_topl (fun y837 ey837 => ?_)
          replace hf := nm_i hf ey837
          refine lv_lmul hx hb dX5_passes_128 ?_
          refine lv_topl (fun y838 ey838 => ?_)
          replace hf := nm_i hf ey838
          refine lv_bipush (v := 100) hx hb dX5_passes_129 (by decide) ?_
          refine lv_aload_n hx hb dX5_passes_131 rfl (lv_at hl 0 rfl) ?_
          refine va_get (ci := 5) (v := .ref (g (b + 1))) (C := RX5) (T := TX5) (N := 12) hx hb hts iw_X5_passes_X5 hown hK hP 0 rfl rfl 0 (by decide) (hts (.fieldLink RX5 7 "BallastTrackModel" "s" "[I") (List.mem_of_getElem? (i := 1) rfl)) (fun _ h9 => h9) rfl dX5_passes_132 ?_
          refine lv_bipush (v := 101) hx hb dX5_passes_135 (by decide) ?_
          refine lv_iload hx hb dX5_passes_137 (lv_at hl 5 rfl) ?_
          refine lv_iadd hx hb dX5_passes_139 ?_
          refine lv_topi (fun x839 ex839 => ?_)
          replace hf := nm_i hf ex839
          obtain ⟨hi840, hf⟩ := ix_i hf
          refine va_iald hx hb hK hP 1 0 rfl rfl hi840 dX5_passes_140 ?_
          refine lv_topi (fun x841 ex841 => ?_)
          replace hf := nm_i hf ex841
          refine lv_iadd hx hb dX5_passes_141 ?_
          refine lv_topi (fun x842 ex842 => ?_)
          replace hf := nm_i hf ex842
          refine lv_i2l (v := x842.toInt64) hx hb dX5_passes_142 rfl ?_
          refine lv_topl (fun y843 ey843 => ?_)
          replace hf := nm_i hf ey843
          refine lv_lmul hx hb dX5_passes_143 ?_
          refine lv_topl (fun y844 ey844 => ?_)
          replace hf := nm_i hf ey844
          refine lv_iload hx hb dX5_passes_144 (lv_at hl 4 rfl) ?_
          refine lv_i2l (v := x384.toInt64) hx hb dX5_passes_146 rfl ?_
          refine lv_topl (fun y845 ey845 => ?_)
          replace hf := nm_i hf ey845
          refine lv_lmul hx hb dX5_passes_147 ?_
          refine lv_topl (fun y846 ey846 => ?_)
          replace hf := nm_i hf ey846
          refine lv_ldc2 (v := 4000000) hx hb hown (hts (.constantLong RX5 139 (4000000)) (List.mem_of_getElem? (i := 3) rfl)) dX5_passes_148 ?_
          refine lv_ldiv hx hb dX5_passes_151 (by decide) ?_
          refine lv_topl (fun y847 ey847 => ?_)
          replace hf := nm_i hf ey847
          refine lv_lstore (lv' := [(6, .long y847), (0, .ref (g b)), (1, .int p0), (2, .int p1), (3, .int p2), (4, .int x384), (5, .int v761)]) hx hb dX5_passes_152 hl (by decide) rfl (fun ls hl => ?_)
          refine lv_aload_n hx hb dX5_passes_154 rfl (lv_at hl 1 rfl) ?_
          refine va_get (ci := 5) (v := .ref (g (b + 1))) (C := RX5) (T := TX5) (N := 12) hx hb hts iw_X5_passes_X5 hown hK hP 0 rfl rfl 0 (by decide) (hts (.fieldLink RX5 7 "BallastTrackModel" "s" "[I") (List.mem_of_getElem? (i := 1) rfl)) (fun _ h9 => h9) rfl dX5_passes_155 ?_
          refine lv_bipush (v := 41) hx hb dX5_passes_158 (by decide) ?_
          refine lv_iload hx hb dX5_passes_160 (lv_at hl 6 rfl) ?_
          refine lv_iadd hx hb dX5_passes_162 ?_
          refine lv_topi (fun x848 ex848 => ?_)
          replace hf := nm_i hf ex848
          obtain ⟨hi849, hf⟩ := ix_i hf
          refine va_iald hx hb hK hP 1 0 rfl rfl hi849 dX5_passes_163 ?_
          refine lv_topi (fun x850 ex850 => ?_)
          replace hf := nm_i hf ex850
          refine lv_i2l (v := x850.toInt64) hx hb dX5_passes_164 rfl ?_
          refine lv_topl (fun y851 ey851 => ?_)
          replace hf := nm_i hf ey851
          refine lv_ldc2 (v := -9999) hx hb hown (hts (.constantLong RX5 141 (-9999)) (List.mem_of_getElem? (i := 4) rfl)) dX5_passes_165 ?_
          refine lv_lsub hx hb dX5_passes_168 ?_
          refine lv_topl (fun y852 ey852 => ?_)
          replace hf := nm_i hf ey852
          refine lv_lstore (lv' := [(8, .long y852), (6, .long y847), (0, .ref (g b)), (1, .int p0), (2, .int p1), (3, .int p2), (4, .int x384), (5, .int v761)]) hx hb dX5_passes_169 hl (by decide) rfl (fun ls hl => ?_)
          refine lv_lload hx hb dX5_passes_171 (lv_at hl 1 rfl) ?_
          refine lv_lload hx hb dX5_passes_173 (lv_at hl 0 rfl) ?_
          refine W.lcmp hx hb dX5_passes_175 ?_
          refine lv_topi (fun x853 ex853 => ?_)
          replace hf := nm_i hf ex853
          obtain ⟨K186_872, eK186_872, hf⟩ := jn_i hf
          have hK186_872 : ∀ (x855 : Int64) (H : Heap) (locs : List Loc) (ls : Array Slot), K186_872 x855 = some z763 → va_P D vwCl (List.flatten [wM cT g b u762]) H → va_S A s.heap H locs → lv_has ls 11 [(0, .ref (g b)), (1, .int p0), (2, .int p1), (3, .int p2), (4, .int x384), (5, .int v761)] → W p l e rm_X5_passes s m args below meth c H locs 0 0 Q (F0 m 186 ls [.long x855]) := by
            intro x855 H locs ls hf hP hS hl
            rw [eK186_872] at hf
            refine lv_l2i (v := x855.toInt32) hx hb dX5_passes_186 rfl ?_
            refine lv_topi (fun x873 ex873 => ?_)
            replace hf := nm_i hf ex873
            refine lv_istore (lv' := [(10, .int x873), (0, .ref (g b)), (1, .int p0), (2, .int p1), (3, .int p2), (4, .int x384), (5, .int v761)]) hx hb dX5_passes_187 hl (by decide) rfl (fun ls hl => ?_)
            refine lv_aload_n hx hb dX5_passes_189 rfl (lv_at hl 1 rfl) ?_
            refine va_get (ci := 5) (v := .ref (g (b + 1))) (C := RX5) (T := TX5) (N := 12) hx hb hts iw_X5_passes_X5 hown hK hP 0 rfl rfl 0 (by decide) (hts (.fieldLink RX5 7 "BallastTrackModel" "s" "[I") (List.mem_of_getElem? (i := 1) rfl)) (fun _ h9 => h9) rfl dX5_passes_190 ?_
            refine lv_bipush (v := 41) hx hb dX5_passes_193 (by decide) ?_
            refine lv_iload hx hb dX5_passes_195 (lv_at hl 6 rfl) ?_
            refine lv_iadd hx hb dX5_passes_197 ?_
            refine lv_topi (fun x874 ex874 => ?_)
            replace hf := nm_i hf ex874
            refine lv_dup2_11 hx hb dX5_passes_198 rfl rfl ?_
            obtain ⟨hi875, hf⟩ := ix_i hf
            refine va_iald hx hb hK hP 1 0 rfl rfl hi875 dX5_passes_199 ?_
            refine lv_topi (fun x876 ex876 => ?_)
            replace hf := nm_i hf ex876
            refine lv_iload hx hb dX5_passes_200 (lv_at hl 0 rfl) ?_
            refine lv_isub hx hb dX5_passes_202 ?_
            refine lv_topi (fun x877 ex877 => ?_)
            replace hf := nm_i hf ex877
            obtain ⟨hi878, hf⟩ := ix_i hf
            refine va_iast hx hb hK hP (va_D_adr hD rfl) hS 1 0 rfl rfl hi878 dX5_passes_203 (fun H locs hP _ hS => ?_)
            obtain ⟨u879, eu879⟩ : ∃ z : TM, z = M_ss_ u762 (upd (M_ss u762) x874.toNatClampNeg x877) := ⟨_, rfl⟩
            replace hf := nm_i hf eu879
            have hP : va_P D vwCl (List.flatten [wM cT g b u879]) H := by rw [eu879]; exact hP
            refine lv_aload_n hx hb dX5_passes_204 rfl (lv_at hl 1 rfl) ?_
            refine va_get (ci := 5) (v := .ref (g (b + 1))) (C := RX5) (T := TX5) (N := 12) hx hb hts iw_X5_passes_X5 hown hK hP 0 rfl rfl 0 (by decide) (hts (.fieldLink RX5 7 "BallastTrackModel" "s" "[I") (List.mem_of_getElem? (i := 1) rfl)) (fun _ h9 => h9) rfl dX5_passes_205 ?_
            refine lv_sipush (v := 161) hx hb dX5_passes_208 (by decide) ?_
            refine lv_iload hx hb dX5_passes_211 (lv_at hl 6 rfl) ?_
            refine lv_iadd hx hb dX5_passes_213 ?_
            refine lv_topi (fun x880 ex880 => ?_)
            replace hf := nm_i hf ex880
            refine lv_dup2_11 hx hb dX5_passes_214 rfl rfl ?_
            obtain ⟨hi881, hf⟩ := ix_i hf
            refine va_iald hx hb hK hP 1 0 rfl rfl hi881 dX5_passes_215 ?_
            refine lv_topi (fun x882 ex882 => ?_)
            replace hf := nm_i hf ex882
            refine lv_iload hx hb dX5_passes_216 (lv_at hl 0 rfl) ?_
            refine lv_iadd hx hb dX5_passes_218 ?_
            refine lv_topi (fun x883 ex883 => ?_)
            replace hf := nm_i hf ex883
            obtain ⟨hi884, hf⟩ := ix_i hf
            refine va_iast hx hb hK hP (va_D_adr hD rfl) hS 1 0 rfl rfl hi884 dX5_passes_219 (fun H locs hP _ hS => ?_)
            obtain ⟨u885, eu885⟩ : ∃ z : TM, z = M_ss_ u879 (upd (M_ss u879) x880.toNatClampNeg x883) := ⟨_, rfl⟩
            replace hf := nm_i hf eu885
            have hP : va_P D vwCl (List.flatten [wM cT g b u885]) H := by rw [eu885]; exact hP
            refine lv_aload_n hx hb dX5_passes_220 rfl (lv_at hl 1 rfl) ?_
            refine va_get (ci := 5) (v := .ref (g (b + 1))) (C := RX5) (T := TX5) (N := 12) hx hb hts iw_X5_passes_X5 hown hK hP 0 rfl rfl 0 (by decide) (hts (.fieldLink RX5 7 "BallastTrackModel" "s" "[I") (List.mem_of_getElem? (i := 1) rfl)) (fun _ h9 => h9) rfl dX5_passes_221 ?_
            refine lv_bipush (v := 9) hx hb dX5_passes_224 (by decide) ?_
            refine lv_dup2_11 hx hb dX5_passes_226 rfl rfl ?_
            refine va_iald hx hb hK hP 1 0 rfl rfl (by unfold vp_in; decide) dX5_passes_227 ?_
            refine lv_topi (fun x886 ex886 => ?_)
            replace hf := nm_i hf ex886
            refine lv_iload hx hb dX5_passes_228 (lv_at hl 0 rfl) ?_
            refine lv_iadd hx hb dX5_passes_230 ?_
            refine lv_topi (fun x887 ex887 => ?_)
            replace hf := nm_i hf ex887
            refine va_iast hx hb hK hP (va_D_adr hD rfl) hS 1 0 rfl rfl (by unfold vp_in; decide) dX5_passes_231 (fun H locs hP _ hS => ?_)
            obtain ⟨u888, eu888⟩ : ∃ z : TM, z = M_ss_ u885 (upd (M_ss u885) 9 x887) := ⟨_, rfl⟩
            replace hf := nm_i hf eu888
            have hP : va_P D vwCl (List.flatten [wM cT g b u888]) H := by rw [eu888]; exact hP
            exact hK232_829 _ _ _ _ hf hP hS (lv_sub hl [1, 2, 3, 4, 5, 6] rfl)
          clear eK186_872
          refine lv_if_ge (tgt := 184) hx hb dX5_passes_176 (by decide) (fun c889 => ?_) (fun c889 => ?_)
          · replace hf := it_t hf c889
            refine lv_lload hx hb dX5_passes_184 (lv_at hl 0 rfl) ?_
            exact hK186_872 _ _ _ _ hf hP hS (lv_sub hl [2, 3, 4, 5, 6, 7] rfl)
          · replace hf := it_f hf c889
            refine lv_lload hx hb dX5_passes_179 (lv_at hl 1 rfl) ?_
            refine lv_goto (tgt := 186) hx hb dX5_passes_181 (by decide) ?_
            exact hK186_872 _ _ _ _ hf hP hS (lv_sub hl [2, 3, 4, 5, 6, 7] rfl)
    refine hL94 fu _ _ _ hz764 _ _ _ hP hS (lv_sub hl [1, 2, 3, 4, 5, 0] rfl) (fun H locs ls hP hS hl => ?_)
    refine lv_aload_n hx hb dX5_passes_238 rfl (lv_at hl 0 rfl) ?_
    refine va_get (ci := 5) (v := .ref (g (b + 1))) (C := RX5) (T := TX5) (N := 12) hx hb hts iw_X5_passes_X5 hown hK hP 0 rfl rfl 0 (by decide) (hts (.fieldLink RX5 7 "BallastTrackModel" "s" "[I") (List.mem_of_getElem? (i := 1) rfl)) (fun _ h9 => h9) rfl dX5_passes_239 ?_
    refine lv_bipush (v := 11) hx hb dX5_passes_242 (by decide) ?_
    refine lv_dup2_11 hx hb dX5_passes_244 rfl rfl ?_
    refine va_iald hx hb hK hP 1 0 rfl rfl (by unfold vp_in; decide) dX5_passes_245 ?_
    refine lv_topi (fun x890 ex890 => ?_)
    replace hf := nm_i hf ex890
    refine lv_iload_n hx hb dX5_passes_246 rfl (lv_at hl 3 rfl) ?_
    obtain ⟨K265_904, eK265_904, hf⟩ := jn_i hf
    have hK265_904 : ∀ (x893 : Int32) (H : Heap) (locs : List Loc) (ls : Array Slot), K265_904 x893 = some o → va_P D vwCl (List.flatten [wM cT g b z764]) H → va_S A s.heap H locs → lv_has ls 11 [(0, .ref (g b)), (1, .int p0), (2, .int p1)] → W p l e rm_X5_passes s m args below meth c H locs 0 0 Q (F0 m 265 ls [.int x893, .int x890, .int ((11 : Int32)), .ref (g (b + 1))]) := by
      intro x893 H locs ls hf hP hS hl
      rw [eK265_904] at hf
      refine lv_iadd hx hb dX5_passes_265 ?_
      refine lv_topi (fun x905 ex905 => ?_)
      replace hf := nm_i hf ex905
      refine va_iast hx hb hK hP (va_D_adr hD rfl) hS 1 0 rfl rfl (by unfold vp_in; decide) dX5_passes_266 (fun H locs hP _ hS => ?_)
      obtain ⟨u906, eu906⟩ : ∃ z : TM, z = M_ss_ z764 (upd (M_ss z764) 11 x905) := ⟨_, rfl⟩
      replace hf := nm_i hf eu906
      have hP : va_P D vwCl (List.flatten [wM cT g b u906]) H := by rw [eu906]; exact hP
      refine lv_aload_n hx hb dX5_passes_267 rfl (lv_at hl 0 rfl) ?_
      refine va_get (ci := 5) (v := .ref (g (b + 1))) (C := RX5) (T := TX5) (N := 12) hx hb hts iw_X5_passes_X5 hown hK hP 0 rfl rfl 0 (by decide) (hts (.fieldLink RX5 7 "BallastTrackModel" "s" "[I") (List.mem_of_getElem? (i := 1) rfl)) (fun _ h9 => h9) rfl dX5_passes_268 ?_
      refine lv_bipush (v := 13) hx hb dX5_passes_271 (by decide) ?_
      refine lv_dup2_11 hx hb dX5_passes_273 rfl rfl ?_
      refine va_iald hx hb hK hP 1 0 rfl rfl (by unfold vp_in; decide) dX5_passes_274 ?_
      refine lv_topi (fun x907 ex907 => ?_)
      replace hf := nm_i hf ex907
      refine lv_iconst (v := 1) hx hb dX5_passes_275 (by decide) ?_
      refine lv_iadd hx hb dX5_passes_276 ?_
      refine lv_topi (fun x908 ex908 => ?_)
      replace hf := nm_i hf ex908
      refine va_iast hx hb hK hP (va_D_adr hD rfl) hS 1 0 rfl rfl (by unfold vp_in; decide) dX5_passes_277 (fun H locs hP _ hS => ?_)
      obtain ⟨u909, eu909⟩ : ∃ z : TM, z = M_ss_ u906 (upd (M_ss u906) 13 x908) := ⟨_, rfl⟩
      replace hf := nm_i hf eu909
      have hP : va_P D vwCl (List.flatten [wM cT g b u909]) H := by rw [eu909]; exact hP
      refine lv_aload_n hx hb dX5_passes_278 rfl (lv_at hl 0 rfl) ?_
      refine va_get (ci := 5) (v := .ref (g (b + 1))) (C := RX5) (T := TX5) (N := 12) hx hb hts iw_X5_passes_X5 hown hK hP 0 rfl rfl 0 (by decide) (hts (.fieldLink RX5 7 "BallastTrackModel" "s" "[I") (List.mem_of_getElem? (i := 1) rfl)) (fun _ h9 => h9) rfl dX5_passes_279 ?_
      refine lv_bipush (v := 14) hx hb dX5_passes_282 (by decide) ?_
      refine lv_dup2_11 hx hb dX5_passes_284 rfl rfl ?_
      refine va_iald hx hb hK hP 1 0 rfl rfl (by unfold vp_in; decide) dX5_passes_285 ?_
      refine lv_topi (fun x910 ex910 => ?_)
      replace hf := nm_i hf ex910
      refine lv_iload_n hx hb dX5_passes_286 rfl (lv_at hl 1 rfl) ?_
      refine lv_iload_n hx hb dX5_passes_287 rfl (lv_at hl 2 rfl) ?_
      refine lv_imul hx hb dX5_passes_288 ?_
      refine lv_topi (fun x911 ex911 => ?_)
      replace hf := nm_i hf ex911
      refine lv_iadd hx hb dX5_passes_289 ?_
      refine lv_topi (fun x912 ex912 => ?_)
      replace hf := nm_i hf ex912
      refine va_iast hx hb hK hP (va_D_adr hD rfl) hS 1 0 rfl rfl (by unfold vp_in; decide) dX5_passes_290 (fun H locs hP _ hS => ?_)
      obtain ⟨u913, eu913⟩ : ∃ z : TM, z = M_ss_ u909 (upd (M_ss u909) 14 x912) := ⟨_, rfl⟩
      replace hf := nm_i hf eu913
      have hP : va_P D vwCl (List.flatten [wM cT g b u913]) H := by rw [eu913]; exact hP
      refine lv_aload_n hx hb dX5_passes_291 rfl (lv_at hl 0 rfl) ?_
      obtain ⟨o914, ho914, hf⟩ := bd_i hf
      refine cl_v [0] [] [wM cT g b o914] hP (va_D_adr hD rfl) hA hS (va_runV (As := []) (rest := []) ⟨hx, hb, hml, hown, hts⟩ (c_X5_laysRail l D cT g b fu u913  o914 ho914 _) (cwV 0 hts gX5_passes_X5_laysRail rfl rfl rfl (by decide +kernel) ⟨Nat.le_of_ble_eq_true rfl, Nat.le_of_ble_eq_true rfl⟩) ⟨PRE_blind, va_recv hK hP (ci := 5) (q0 := 0) rfl rfl, PRE_ok [0] (by decide) hP (va_D_adr hD rfl) hA hS hK hN hZ⟩ rfl rfl hl.1 rfl (lv_room (Nat.le_of_ble_eq_true rfl)) dX5_passes_292 ⟨Nat.le_of_ble_eq_true rfl, Nat.le_of_ble_eq_true rfl⟩) rfl 1 rfl (by decide) (by decide) (fun H locs hP hS => ?_)
      obtain rfl := Option.some.inj hf
      subst hQ
      exact en_v hx hb hr hP hS hlocks dX5_passes_295
    clear eK265_904
    refine lv_if_ne (tgt := 254) hx hb dX5_passes_247 (by decide) (fun c915 => ?_) (fun c915 => ?_)
    · replace hf := it_t hf c915
      refine lv_iload_n hx hb dX5_passes_254 rfl (lv_at hl 3 rfl) ?_
      refine lv_iconst (v := 1) hx hb dX5_passes_255 (by decide) ?_
      refine lv_icmp_ne (tgt := 263) hx hb dX5_passes_256 (by decide) (fun c916 => ?_) (fun c916 => ?_)
      · replace hf := it_t hf c916
        refine lv_bipush (v := 6) hx hb dX5_passes_263 (by decide) ?_
        exact hK265_904 _ _ _ _ hf hP hS (lv_sub hl [0, 1, 2] rfl)
      · replace hf := it_f hf (not_not_intro c916)
        refine lv_iconst (v := 2) hx hb dX5_passes_259 (by decide) ?_
        refine lv_goto (tgt := 265) hx hb dX5_passes_260 (by decide) ?_
        exact hK265_904 _ _ _ _ hf hP hS (lv_sub hl [0, 1, 2] rfl)
    · replace hf := it_f hf (not_not_intro c915)
      refine lv_iconst (v := 0) hx hb dX5_passes_250 (by decide) ?_
      refine lv_goto (tgt := 265) hx hb dX5_passes_251 (by decide) ?_
      exact hK265_904 _ _ _ _ hf hP hS (lv_sub hl [0, 1, 2] rfl)
  clear eK25_572
  refine lv_if_ne (tgt := 13) hx hb dX5_passes_5 (by decide) (fun c917 => ?_) (fun c917 => ?_)
  · replace hf := it_t hf c917
    refine lv_iload_n hx hb dX5_passes_13 rfl (lv_at hl 3 rfl) ?_
    refine lv_iconst (v := 1) hx hb dX5_passes_14 (by decide) ?_
    refine lv_icmp_ne (tgt := 23) hx hb dX5_passes_15 (by decide) (fun c918 => ?_) (fun c918 => ?_)
    · replace hf := it_t hf c918
      refine lv_bipush (v := 40) hx hb dX5_passes_23 (by decide) ?_
      exact hK25_572 _ _ _ _ hf hP hS (lv_sub hl [0, 1, 2, 3] rfl)
    · replace hf := it_f hf (not_not_intro c918)
      refine lv_bipush (v := 70) hx hb dX5_passes_18 (by decide) ?_
      refine lv_goto (tgt := 25) hx hb dX5_passes_20 (by decide) ?_
      exact hK25_572 _ _ _ _ hf hP hS (lv_sub hl [0, 1, 2, 3] rfl)
  · replace hf := it_f hf (not_not_intro c917)
    refine lv_bipush (v := 100) hx hb dX5_passes_8 (by decide) ?_
    refine lv_goto (tgt := 25) hx hb dX5_passes_10 (by decide) ?_
    exact hK25_572 _ _ _ _ hf hP hS (lv_sub hl [0, 1, 2, 3] rfl)
def f_X5_isTrain (fu : Nat)  (p0 : Int32) (p1 : Int32) : Option (Bool) :=
bd (f_X5_in fu  p0 ((1 : Int32)) ((200 : Int32))) fun (o8 : Bool) =>
jn (some (false)
) fun K25_12 =>
if bI o8 = 0 then (
K25_12 
)
else (
bd (f_X5_in fu  p1 ((1 : Int32)) ((30 : Int32))) fun (o14 : Bool) =>
if bI o14 = 0 then (
K25_12 
)
else (
some (true)
)
)

abbrev rm_X5_isTrain : Room := { frames := 1, cells := 0, slots := 0, locals := 22 }
set_option maxHeartbeats 4000000 in
set_option maxRecDepth 100000 in
theorem c_X5_isTrain (l : Launch) (D : va_G) (cT : Nat → ClassId) (g : Nat → Nat) (fu : Nat)  (p0 : Int32) (p1 : Int32) (o : Bool) (hf : f_X5_isTrain fu  p0 p1 = some o) (sz : Nat) : Met l yX5_isTrain wsX5_isTrain rm_X5_isTrain (va_Pc [.int p0, .int p1] (PRE D cT sz (List.flatten []))) (QI D (bI o) (List.flatten []) (va_A (List.flatten []) sz)) 0 0 (va_A (List.flatten []) sz) := by
  refine Met.ofW (cc := cX5_isTrain) (maxL := 2) (ret := (some .boolean)) (by decide) rfl ?_
  intro p e s m args below meth c s₁ B0 hml hv
  obtain ⟨hav, hsz, hP, hK, hD, hN, hZ⟩ := hv
  have hx := B0.exec
  have hb := B0.bytes
  have hr := B0.returns
  have hts := atoms_spec (ws := wsX5_isTrain) B0.pre
  have hown : s.vm.findClass RX5 = some m.cls := findClass_of_methodNamed B0.named
  have hlocks := B0.notSynchronized
  subst hsz
  have hD := hD.self (sz := s.heap.size)
  have hA : ∀ q : Nat, s.heap.size ≤ q → va_A (List.flatten []) s.heap.size q := fun q h => Or.inr h
  generalize va_A (List.flatten []) s.heap.size = A at hD hZ hA ⊢
  have hS : va_S A s.heap s.heap [] := va_S.rf
  have hl := lv_entry ([.int p0, .int p1]) (n := 2) (Nat.le_of_ble_eq_true rfl)
  rw [hav]
  rw [lg_entry_eq]
  generalize (lg_sl ([.int p0, .int p1]) ++ List.replicate (2 - (lg_sl ([.int p0, .int p1])).length) Slot.unset).toArray = ls at hl ⊢
  have hl : lv_has ls 2 [(0, .int p0), (1, .int p1)] := hl
  rw [← hav]
  generalize hQ : MQ below _ _ _ _ _ _ = Q
  show W p l e rm_X5_isTrain s m args below meth c s.heap [] 0 0 Q (F0 m 0 ls [])
  unfold f_X5_isTrain at hf
  refine lv_iload_n hx hb dX5_isTrain_0 rfl (lv_at hl 0 rfl) ?_
  refine lv_iconst (v := 1) hx hb dX5_isTrain_1 (by decide) ?_
  refine lv_sipush (v := 200) hx hb dX5_isTrain_2 (by decide) ?_
  obtain ⟨o8, ho8, hf⟩ := bd_i hf
  refine cl_i [] [] [] hP (va_D_adr hD rfl) hA hS (va_runS (As := [.int p0, .int ((1 : Int32)), .int ((200 : Int32))]) (rest := []) ⟨hx, hb, hml, hown, hts⟩ (c_X5_in l D cT g  fu  p0 ((1 : Int32)) ((200 : Int32)) o8 ho8 _) (va_cwS 3 hts gX5_isTrain_X5_in rfl rfl rfl (by decide +kernel) ⟨Nat.le_of_ble_eq_true rfl, Nat.le_of_ble_eq_true rfl⟩) ⟨PRE_blind, PRE_ok [] (by decide) hP (va_D_adr hD rfl) hA hS hK hN hZ⟩ rfl rfl hl.1 rfl (lv_room (Nat.le_of_ble_eq_true rfl)) dX5_isTrain_5 ⟨Nat.le_of_ble_eq_true rfl, Nat.le_of_ble_eq_true rfl⟩) rfl 0 rfl (by decide) (by decide) (fun H locs hP hS => ?_)
  obtain ⟨K25_12, eK25_12, hf⟩ := jn_i hf
  have hK25_12 : ∀  (H : Heap) (locs : List Loc) (ls : Array Slot), K25_12  = some o → va_P D vwCl (List.flatten []) H → va_S A s.heap H locs → lv_has ls 2 [] → W p l e rm_X5_isTrain s m args below meth c H locs 0 0 Q (F0 m 25 ls []) := by
    intro  H locs ls hf hP hS hl
    rw [eK25_12] at hf
    refine lv_iconst (v := 0) hx hb dX5_isTrain_25 (by decide) ?_
    obtain rfl := Option.some.inj hf
    subst hQ
    exact en_z (v := false) hx hb hr hP hS hlocks dX5_isTrain_26
  clear eK25_12
  refine lv_if_eq (tgt := 25) hx hb dX5_isTrain_8 (by decide) (fun c13 => ?_) (fun c13 => ?_)
  · replace hf := it_t hf c13
    exact hK25_12  _ _ _ hf hP hS (lv_sub hl [] rfl)
  · replace hf := it_f hf c13
    refine lv_iload_n hx hb dX5_isTrain_11 rfl (lv_at hl 1 rfl) ?_
    refine lv_iconst (v := 1) hx hb dX5_isTrain_12 (by decide) ?_
    refine lv_bipush (v := 30) hx hb dX5_isTrain_13 (by decide) ?_
    obtain ⟨o14, ho14, hf⟩ := bd_i hf
    refine cl_i [] [] [] hP (va_D_adr hD rfl) hA hS (va_runS (As := [.int p1, .int ((1 : Int32)), .int ((30 : Int32))]) (rest := []) ⟨hx, hb, hml, hown, hts⟩ (c_X5_in l D cT g  fu  p1 ((1 : Int32)) ((30 : Int32)) o14 ho14 _) (va_cwS 3 hts gX5_isTrain_X5_in rfl rfl rfl (by decide +kernel) ⟨Nat.le_of_ble_eq_true rfl, Nat.le_of_ble_eq_true rfl⟩) ⟨PRE_blind, PRE_ok [] (by decide) hP (va_D_adr hD rfl) hA hS hK hN hZ⟩ rfl rfl hl.1 rfl (lv_room (Nat.le_of_ble_eq_true rfl)) dX5_isTrain_15 ⟨Nat.le_of_ble_eq_true rfl, Nat.le_of_ble_eq_true rfl⟩) rfl 0 rfl (by decide) (by decide) (fun H locs hP hS => ?_)
    refine lv_if_eq (tgt := 25) hx hb dX5_isTrain_18 (by decide) (fun c15 => ?_) (fun c15 => ?_)
    · replace hf := it_t hf c15
      exact hK25_12  _ _ _ hf hP hS (lv_sub hl [] rfl)
    · replace hf := it_f hf c15
      refine lv_iconst (v := 1) hx hb dX5_isTrain_21 (by decide) ?_
      refine lv_goto (tgt := 26) hx hb dX5_isTrain_22 (by decide) ?_
      obtain rfl := Option.some.inj hf
      subst hQ
      exact en_z (v := true) hx hb hr hP hS hlocks dX5_isTrain_26
def lb_X5_trains_47 (fu : Nat) (p0 : Int32) (p1 : Int32) (p2 : Int32) (rec : Int32 → Int32 → TM → Option (Int32 × TM)) (v37 : Int32) (v38 : Int32) (u39 : TM) : Option (Int32 × TM) :=
if p2 ≤ v38 then (
some (v38, u39)
)
else (
if (3 : Int32) ≤ v37 then (
some (v38, u39)
)
else (
bd (f_X5_passes fu u39 p0 p1 v37) fun (o44 : TM) =>
bd (f_X5_order fu o44 ) fun (o45 : Int32) =>
nm (v38 + (1 : Int32)) fun (x46 : Int32) =>
rec o45 x46 o44
)
)

def lf_X5_trains_47 (fu : Nat) (p0 : Int32) (p1 : Int32) (p2 : Int32) : Nat → Int32 → Int32 → TM → Option (Int32 × TM) := lq_3 (lb_X5_trains_47 fu p0 p1 p2)
def f_X5_trains (fu : Nat) (u_mo : TM) (p0 : Int32) (p1 : Int32) (p2 : Int32) : Option (Int32 × TM) :=
bd (f_X5_isTrain fu  p0 p1) fun (o21 : Bool) =>
if bI o21 = 0 then (
some ((-100001 : Int32), u_mo)
)
else (
bd (f_X5_in fu  p2 ((1 : Int32)) ((50 : Int32))) fun (o23 : Bool) =>
if ¬ bI o23 = 0 then (
bd (f_X5_laysRail fu u_mo ) fun (o25 : TM) =>
bd (f_X5_order fu o25 ) fun (o26 : Int32) =>
if ¬ o26 = (3 : Int32) then (
bd (f_X5_notes fu o25 ) fun (o28 : TM) =>
bd (lf_X5_trains_47 fu p0 p1 p2 fu o26 ((0 : Int32)) o28) fun (z41 : Int32 × TM) =>
some (z41.1, z41.2)
)
else (
some ((-100002 : Int32), o25)
)
)
else (
some ((-100001 : Int32), u_mo)
)
)

abbrev rm_X5_trains : Room := { frames := 5, cells := 0, slots := 0, locals := 119 }
set_option maxHeartbeats 4000000 in
set_option maxRecDepth 100000 in
theorem c_X5_trains (l : Launch) (D : va_G) (cT : Nat → ClassId) (g : Nat → Nat) (b : Nat) (fu : Nat) (u_mo : TM) (p0 : Int32) (p1 : Int32) (p2 : Int32) (o : Int32 × TM) (hf : f_X5_trains fu u_mo p0 p1 p2 = some o) (sz : Nat) : Met l yX5_trains wsX5_trains rm_X5_trains (va_Pc [.ref (g b), .int p0, .int p1, .int p2] (PRE D cT sz (List.flatten [wM cT g b u_mo]))) (QI D o.1 (List.flatten [wM cT g b o.2]) (va_A (List.flatten [wM cT g b u_mo]) sz)) 0 0 (va_A (List.flatten [wM cT g b u_mo]) sz) := by
  refine Met.ofW (cc := cX5_trains) (maxL := 6) (ret := (some .int)) (by decide) rfl ?_
  intro p e s m args below meth c s₁ B0 hml hv
  obtain ⟨hav, hsz, hP, hK, hD, hN, hZ⟩ := hv
  have hx := B0.exec
  have hb := B0.bytes
  have hr := B0.returns
  have hts := atoms_spec (ws := wsX5_trains) B0.pre
  have hown : s.vm.findClass RX5 = some m.cls := findClass_of_methodNamed B0.named
  have hlocks := B0.notSynchronized
  subst hsz
  have hD := hD.self (sz := s.heap.size)
  have hA : ∀ q : Nat, s.heap.size ≤ q → va_A (List.flatten [wM cT g b u_mo]) s.heap.size q := fun q h => Or.inr h
  generalize va_A (List.flatten [wM cT g b u_mo]) s.heap.size = A at hD hZ hA ⊢
  have hS : va_S A s.heap s.heap [] := va_S.rf
  have hl := lv_entry ([.ref (g b), .int p0, .int p1, .int p2]) (n := 6) (Nat.le_of_ble_eq_true rfl)
  rw [hav]
  rw [lg_entry_eq]
  generalize (lg_sl ([.ref (g b), .int p0, .int p1, .int p2]) ++ List.replicate (6 - (lg_sl ([.ref (g b), .int p0, .int p1, .int p2])).length) Slot.unset).toArray = ls at hl ⊢
  have hl : lv_has ls 6 [(0, .ref (g b)), (1, .int p0), (2, .int p1), (3, .int p2)] := hl
  rw [← hav]
  generalize hQ : MQ below _ _ _ _ _ _ = Q
  show W p l e rm_X5_trains s m args below meth c s.heap [] 0 0 Q (F0 m 0 ls [])
  unfold f_X5_trains at hf
  refine lv_iload_n hx hb dX5_trains_0 rfl (lv_at hl 1 rfl) ?_
  refine lv_iload_n hx hb dX5_trains_1 rfl (lv_at hl 2 rfl) ?_
  obtain ⟨o21, ho21, hf⟩ := bd_i hf
  refine cl_i [] [0] [wM cT g b u_mo] hP (va_D_adr hD rfl) hA hS (va_runS (As := [.int p0, .int p1]) (rest := []) ⟨hx, hb, hml, hown, hts⟩ (c_X5_isTrain l D cT g  fu  p0 p1 o21 ho21 _) (va_cwS 2 hts gX5_trains_X5_isTrain rfl rfl rfl (by decide +kernel) ⟨Nat.le_of_ble_eq_true rfl, Nat.le_of_ble_eq_true rfl⟩) ⟨PRE_blind, PRE_ok [] (by decide) hP (va_D_adr hD rfl) hA hS hK hN hZ⟩ rfl rfl hl.1 rfl (lv_room (Nat.le_of_ble_eq_true rfl)) dX5_trains_2 ⟨Nat.le_of_ble_eq_true rfl, Nat.le_of_ble_eq_true rfl⟩) rfl 1 rfl (by decide) (by decide) (fun H locs hP hS => ?_)
  refine lv_if_eq (tgt := 18) hx hb dX5_trains_5 (by decide) (fun c22 => ?_) (fun c22 => ?_)
  · replace hf := it_t hf c22
    refine lv_ldc (v := -100001) hx hb hown (hts (.constant RX5 68 (-100001)) (List.mem_of_getElem? (i := 1) rfl)) dX5_trains_18 ?_
    obtain rfl := Option.some.inj hf
    subst hQ
    exact en_i hx hb hr hP hS hlocks dX5_trains_20
  · replace hf := it_f hf c22
    refine lv_iload_n hx hb dX5_trains_8 rfl (lv_at hl 3 rfl) ?_
    refine lv_iconst (v := 1) hx hb dX5_trains_9 (by decide) ?_
    refine lv_bipush (v := 50) hx hb dX5_trains_10 (by decide) ?_
    obtain ⟨o23, ho23, hf⟩ := bd_i hf
    refine cl_i [] [0] [wM cT g b u_mo] hP (va_D_adr hD rfl) hA hS (va_runS (As := [.int p2, .int ((1 : Int32)), .int ((50 : Int32))]) (rest := []) ⟨hx, hb, hml, hown, hts⟩ (c_X5_in l D cT g  fu  p2 ((1 : Int32)) ((50 : Int32)) o23 ho23 _) (va_cwS 3 hts gX5_trains_X5_in rfl rfl rfl (by decide +kernel) ⟨Nat.le_of_ble_eq_true rfl, Nat.le_of_ble_eq_true rfl⟩) ⟨PRE_blind, PRE_ok [] (by decide) hP (va_D_adr hD rfl) hA hS hK hN hZ⟩ rfl rfl hl.1 rfl (lv_room (Nat.le_of_ble_eq_true rfl)) dX5_trains_12 ⟨Nat.le_of_ble_eq_true rfl, Nat.le_of_ble_eq_true rfl⟩) rfl 1 rfl (by decide) (by decide) (fun H locs hP hS => ?_)
    refine lv_if_ne (tgt := 21) hx hb dX5_trains_15 (by decide) (fun c24 => ?_) (fun c24 => ?_)
    · replace hf := it_t hf c24
      refine lv_aload_n hx hb dX5_trains_21 rfl (lv_at hl 0 rfl) ?_
      obtain ⟨o25, ho25, hf⟩ := bd_i hf
      refine cl_v [0] [] [wM cT g b o25] hP (va_D_adr hD rfl) hA hS (va_runV (As := []) (rest := []) ⟨hx, hb, hml, hown, hts⟩ (c_X5_laysRail l D cT g b fu u_mo  o25 ho25 _) (cwV 0 hts gX5_trains_X5_laysRail rfl rfl rfl (by decide +kernel) ⟨Nat.le_of_ble_eq_true rfl, Nat.le_of_ble_eq_true rfl⟩) ⟨PRE_blind, va_recv hK hP (ci := 5) (q0 := 0) rfl rfl, PRE_ok [0] (by decide) hP (va_D_adr hD rfl) hA hS hK hN hZ⟩ rfl rfl hl.1 rfl (lv_room (Nat.le_of_ble_eq_true rfl)) dX5_trains_22 ⟨Nat.le_of_ble_eq_true rfl, Nat.le_of_ble_eq_true rfl⟩) rfl 1 rfl (by decide) (by decide) (fun H locs hP hS => ?_)
      refine lv_aload_n hx hb dX5_trains_25 rfl (lv_at hl 0 rfl) ?_
      obtain ⟨o26, ho26, hf⟩ := bd_i hf
      refine cl_i [0] [] [wM cT g b o25] hP (va_D_adr hD rfl) hA hS (va_runV (As := []) (rest := []) ⟨hx, hb, hml, hown, hts⟩ (c_X5_order l D cT g b fu o25  o26 ho26 _) (cwV 0 hts gX5_trains_X5_order rfl rfl rfl (by decide +kernel) ⟨Nat.le_of_ble_eq_true rfl, Nat.le_of_ble_eq_true rfl⟩) ⟨PRE_blind, va_recv hK hP (ci := 5) (q0 := 0) rfl rfl, PRE_ok [0] (by decide) hP (va_D_adr hD rfl) hA hS hK hN hZ⟩ rfl rfl hl.1 rfl (lv_room (Nat.le_of_ble_eq_true rfl)) dX5_trains_26 ⟨Nat.le_of_ble_eq_true rfl, Nat.le_of_ble_eq_true rfl⟩) rfl 1 rfl (by decide) (by decide) (fun H locs hP hS => ?_)
      refine lv_istore (lv' := [(4, .int o26), (0, .ref (g b)), (1, .int p0), (2, .int p1), (3, .int p2)]) hx hb dX5_trains_29 hl (by decide) rfl (fun ls hl => ?_)
      refine lv_iload hx hb dX5_trains_31 (lv_at hl 0 rfl) ?_
      refine lv_iconst (v := 3) hx hb dX5_trains_33 (by decide) ?_
      refine lv_icmp_ne (tgt := 40) hx hb dX5_trains_34 (by decide) (fun c27 => ?_) (fun c27 => ?_)
      · replace hf := it_t hf c27
        refine lv_aload_n hx hb dX5_trains_40 rfl (lv_at hl 1 rfl) ?_
        obtain ⟨o28, ho28, hf⟩ := bd_i hf
        refine cl_v [0] [] [wM cT g b o28] hP (va_D_adr hD rfl) hA hS (va_runV (As := []) (rest := []) ⟨hx, hb, hml, hown, hts⟩ (c_X5_notes l D cT g b fu o25  o28 ho28 _) (cwV 0 hts gX5_trains_X5_notes rfl rfl rfl (by decide +kernel) ⟨Nat.le_of_ble_eq_true rfl, Nat.le_of_ble_eq_true rfl⟩) ⟨PRE_blind, va_recv hK hP (ci := 5) (q0 := 0) rfl rfl, PRE_ok [0] (by decide) hP (va_D_adr hD rfl) hA hS hK hN hZ⟩ rfl rfl hl.1 rfl (lv_room (Nat.le_of_ble_eq_true rfl)) dX5_trains_41 ⟨Nat.le_of_ble_eq_true rfl, Nat.le_of_ble_eq_true rfl⟩) rfl 1 rfl (by decide) (by decide) (fun H locs hP hS => ?_)
        refine lv_iconst (v := 0) hx hb dX5_trains_44 (by decide) ?_
        refine lv_istore (lv' := [(5, .int ((0 : Int32))), (4, .int o26), (0, .ref (g b)), (1, .int p0), (2, .int p1), (3, .int p2)]) hx hb dX5_trains_45 hl (by decide) rfl (fun ls hl => ?_)
        obtain ⟨z41, hz41, hf⟩ := bd_i hf
        have hL47 : ∀ (n : Nat) (v37 : Int32) (v38 : Int32) (u39 : TM) (z40 : Int32 × TM), lf_X5_trains_47 fu p0 p1 p2 n v37 v38 u39 = some z40 → ∀ (H : Heap) (locs : List Loc) (ls : Array Slot), va_P D vwCl (List.flatten [wM cT g b u39]) H → va_S A s.heap H locs → lv_has ls 6 [(0, .ref (g b)), (1, .int p0), (2, .int p1), (3, .int p2), (4, .int v37), (5, .int v38)] → (∀ (H : Heap) (locs : List Loc) (ls : Array Slot), va_P D vwCl (List.flatten [wM cT g b z40.2]) H → va_S A s.heap H locs → lv_has ls 6 [(5, .int z40.1)] → W p l e rm_X5_trains s m args below meth c H locs 0 0 Q (F0 m 79 ls [])) → W p l e rm_X5_trains s m args below meth c H locs 0 0 Q (F0 m 47 ls []) := by
          refine lq_3_ind (F := lb_X5_trains_47 fu p0 p1 p2) (fun rec ih v37 v38 u39 z40 hf H locs ls hP hS hl kx => ?_)
          unfold lb_X5_trains_47 at hf
          refine lv_iload hx hb dX5_trains_47 (lv_at hl 5 rfl) ?_
          refine lv_iload_n hx hb dX5_trains_49 rfl (lv_at hl 3 rfl) ?_
          refine lv_icmp_ge (tgt := 79) hx hb dX5_trains_50 (by decide) (fun c42 => ?_) (fun c42 => ?_)
          · replace hf := it_t hf c42
            obtain rfl := Option.some.inj hf
            exact kx _ _ _ hP hS (lv_sub hl [5] rfl)
          · replace hf := it_f hf c42
            refine lv_iload hx hb dX5_trains_53 (lv_at hl 4 rfl) ?_
            refine lv_iconst (v := 3) hx hb dX5_trains_55 (by decide) ?_
            refine lv_icmp_ge (tgt := 79) hx hb dX5_trains_56 (by decide) (fun c43 => ?_) (fun c43 => ?_)
            · replace hf := it_t hf c43
              obtain rfl := Option.some.inj hf
              exact kx _ _ _ hP hS (lv_sub hl [5] rfl)
            · replace hf := it_f hf c43
              refine lv_aload_n hx hb dX5_trains_59 rfl (lv_at hl 0 rfl) ?_
              refine lv_iload_n hx hb dX5_trains_60 rfl (lv_at hl 1 rfl) ?_
              refine lv_iload_n hx hb dX5_trains_61 rfl (lv_at hl 2 rfl) ?_
              refine lv_iload hx hb dX5_trains_62 (lv_at hl 4 rfl) ?_
              obtain ⟨o44, ho44, hf⟩ := bd_i hf
              refine cl_v [0] [] [wM cT g b o44] hP (va_D_adr hD rfl) hA hS (va_runV (As := [.int p0, .int p1, .int v37]) (rest := []) ⟨hx, hb, hml, hown, hts⟩ (c_X5_passes l D cT g b fu u39 p0 p1 v37 o44 ho44 _) (cwV 3 hts gX5_trains_X5_passes rfl rfl rfl (by decide +kernel) ⟨Nat.le_of_ble_eq_true rfl, Nat.le_of_ble_eq_true rfl⟩) ⟨PRE_blind, va_recv hK hP (ci := 5) (q0 := 0) rfl rfl, PRE_ok [0] (by decide) hP (va_D_adr hD rfl) hA hS hK hN hZ⟩ rfl rfl hl.1 rfl (lv_room (Nat.le_of_ble_eq_true rfl)) dX5_trains_64 ⟨Nat.le_of_ble_eq_true rfl, Nat.le_of_ble_eq_true rfl⟩) rfl 1 rfl (by decide) (by decide) (fun H locs hP hS => ?_)
              refine lv_aload_n hx hb dX5_trains_67 rfl (lv_at hl 0 rfl) ?_
              obtain ⟨o45, ho45, hf⟩ := bd_i hf
              refine cl_i [0] [] [wM cT g b o44] hP (va_D_adr hD rfl) hA hS (va_runV (As := []) (rest := []) ⟨hx, hb, hml, hown, hts⟩ (c_X5_order l D cT g b fu o44  o45 ho45 _) (cwV 0 hts gX5_trains_X5_order rfl rfl rfl (by decide +kernel) ⟨Nat.le_of_ble_eq_true rfl, Nat.le_of_ble_eq_true rfl⟩) ⟨PRE_blind, va_recv hK hP (ci := 5) (q0 := 0) rfl rfl, PRE_ok [0] (by decide) hP (va_D_adr hD rfl) hA hS hK hN hZ⟩ rfl rfl hl.1 rfl (lv_room (Nat.le_of_ble_eq_true rfl)) dX5_trains_68 ⟨Nat.le_of_ble_eq_true rfl, Nat.le_of_ble_eq_true rfl⟩) rfl 1 rfl (by decide) (by decide) (fun H locs hP hS => ?_)
              refine lv_istore (lv' := [(4, .int o45), (0, .ref (g b)), (1, .int p0), (2, .int p1), (3, .int p2), (5, .int v38)]) hx hb dX5_trains_71 hl (by decide) rfl (fun ls hl => ?_)
              obtain ⟨x46, ex46⟩ : ∃ z : Int32, z = v38 + (1 : Int32) := ⟨_, rfl⟩
              replace hf := nm_i hf ex46
              refine lv_iinc (v := x46) (lv' := [(5, .int x46), (4, .int o45), (0, .ref (g b)), (1, .int p0), (2, .int p1), (3, .int p2)]) hx hb dX5_trains_73 hl (k := 5) rfl (by rw [ex46]; rfl) (by decide) rfl (fun ls hl => ?_)
              refine lv_goto (tgt := 47) hx hb dX5_trains_76 (by decide) ?_
              exact ih _ _ _ _ hf _ _ _ hP hS (lv_sub hl [2, 3, 4, 5, 1, 0] rfl) kx
        refine hL47 fu _ _ _ _ hz41 _ _ _ hP hS (lv_sub hl [2, 3, 4, 5, 1, 0] rfl) (fun H locs ls hP hS hl => ?_)
        refine lv_iload hx hb dX5_trains_79 (lv_at hl 0 rfl) ?_
        obtain rfl := Option.some.inj hf
        subst hQ
        exact en_i hx hb hr hP hS hlocks dX5_trains_81
      · replace hf := it_f hf (not_not_intro c27)
        refine lv_ldc (v := -100002) hx hb hown (hts (.constant RX5 36 (-100002)) (List.mem_of_getElem? (i := 2) rfl)) dX5_trains_37 ?_
        obtain rfl := Option.some.inj hf
        subst hQ
        exact en_i hx hb hr hP hS hlocks dX5_trains_39
    · replace hf := it_f hf (not_not_intro c24)
      refine lv_ldc (v := -100001) hx hb hown (hts (.constant RX5 68 (-100001)) (List.mem_of_getElem? (i := 1) rfl)) dX5_trains_18 ?_
      obtain rfl := Option.some.inj hf
      subst hQ
      exact en_i hx hb hr hP hS hlocks dX5_trains_20
