def f_L_does (fu : Nat) (u_now : TS) (u_survey : TV) (u_history : TH) (u_history_r0 : TS) (u_history_r1 : TS) (u_history_r2 : TS) (u_history_r3 : TS) (u_history_r4 : TS) (u_history_r5 : TS) (u_text : TX) (u_kept : (Nat → Int32)) (u_images_r0 : TS) (u_images_r1 : TS) (p1 : Int32) : Option (Int32 × TS × TV × TH × TS × TS × TS × TS × TS × TS) :=
bd (f_X4_count fu u_now u_survey u_history u_text u_kept ((0 : Int32))) fun (o92 : Int32 × TV) =>
nm (p1 >>> ((4 : Int32) &&& 31)) fun (x93 : Int32) =>
bd (f_L_low fu  x93 o92.1) fun (o94 : Int32) =>
nm (p1 &&& (15 : Int32)) fun (x95 : Int32) =>
if x95 = (0 : Int32) then (
nm (p1 >>> ((4 : Int32) &&& 31)) fun (x97 : Int32) =>
nm (x97 &&& (3 : Int32)) fun (x98 : Int32) =>
if ¬ x98 = 0 then (
nm (p1 >>> ((10 : Int32) &&& 31)) fun (x100 : Int32) =>
bd (f_L_low fu  x100 ((3 : Int32))) fun (o101 : Int32) =>
nm (o94 + o101) fun (x102 : Int32) =>
bd (f_X4_renew fu u_now u_history u_history_r0 u_history_r1 u_history_r2 u_history_r3 u_history_r4 u_history_r5 o94 x102) fun (o103 : Int32 × TS × TH × TS × TS × TS × TS × TS × TS) =>
some (o103.1, o103.2.1, o92.2, o103.2.2.1, o103.2.2.2.1, o103.2.2.2.2.1, o103.2.2.2.2.2.1, o103.2.2.2.2.2.2.1, o103.2.2.2.2.2.2.2.1, o103.2.2.2.2.2.2.2.2)
)
else (
nm (p1 >>> ((6 : Int32) &&& 31)) fun (x104 : Int32) =>
bd (f_L_low fu  x104 ((51 : Int32))) fun (o105 : Int32) =>
nm ((10 : Int32) + o105) fun (x106 : Int32) =>
bd (f_X4_begin fu u_now u_history u_history_r0 u_history_r1 u_history_r2 u_history_r3 u_history_r4 u_history_r5 x106) fun (o107 : Int32 × TS × TH × TS × TS × TS × TS × TS × TS) =>
some (o107.1, o107.2.1, o92.2, o107.2.2.1, o107.2.2.2.1, o107.2.2.2.2.1, o107.2.2.2.2.2.1, o107.2.2.2.2.2.2.1, o107.2.2.2.2.2.2.2.1, o107.2.2.2.2.2.2.2.2)
)
)
else if x95 = (1 : Int32) then (
nm (p1 >>> ((4 : Int32) &&& 31)) fun (x109 : Int32) =>
bd (f_L_low fu  x109 ((8 : Int32))) fun (o110 : Int32) =>
nm (p1 >>> ((7 : Int32) &&& 31)) fun (x111 : Int32) =>
bd (f_L_low fu  x111 ((100 : Int32))) fun (o112 : Int32) =>
nm ((1 : Int32) + o112) fun (x113 : Int32) =>
bd (f_X4_setNumber fu u_now u_history u_history_r0 u_history_r1 u_history_r2 u_history_r3 u_history_r4 u_history_r5 o110 x113) fun (o114 : Int32 × TS × TH × TS × TS × TS × TS × TS × TS) =>
some (o114.1, o114.2.1, o92.2, o114.2.2.1, o114.2.2.2.1, o114.2.2.2.2.1, o114.2.2.2.2.2.1, o114.2.2.2.2.2.2.1, o114.2.2.2.2.2.2.2.1, o114.2.2.2.2.2.2.2.2)
)
else if x95 = (2 : Int32) then (
nm (p1 >>> ((10 : Int32) &&& 31)) fun (x116 : Int32) =>
bd (f_L_low fu  x116 ((200 : Int32))) fun (o117 : Int32) =>
nm (o117 - (100 : Int32)) fun (x118 : Int32) =>
bd (f_X4_setLevel fu u_now u_history u_history_r0 u_history_r1 u_history_r2 u_history_r3 u_history_r4 u_history_r5 o94 x118) fun (o119 : Int32 × TS × TH × TS × TS × TS × TS × TS × TS) =>
nm (o119.1 + (20000 : Int32)) fun (x120 : Int32) =>
some (x120, o119.2.1, o92.2, o119.2.2.1, o119.2.2.2.1, o119.2.2.2.2.1, o119.2.2.2.2.2.1, o119.2.2.2.2.2.2.1, o119.2.2.2.2.2.2.2.1, o119.2.2.2.2.2.2.2.2)
)
else if x95 = (3 : Int32) then (
nm (p1 >>> ((10 : Int32) &&& 31)) fun (x122 : Int32) =>
bd (f_L_low fu  x122 ((200 : Int32))) fun (o123 : Int32) =>
nm (o123 - (100 : Int32)) fun (x124 : Int32) =>
bd (f_X4_setLevel fu u_now u_history u_history_r0 u_history_r1 u_history_r2 u_history_r3 u_history_r4 u_history_r5 o94 x124) fun (o125 : Int32 × TS × TH × TS × TS × TS × TS × TS × TS) =>
nm (o125.1 + (20000 : Int32)) fun (x126 : Int32) =>
some (x126, o125.2.1, o92.2, o125.2.2.1, o125.2.2.2.1, o125.2.2.2.2.1, o125.2.2.2.2.2.1, o125.2.2.2.2.2.2.1, o125.2.2.2.2.2.2.2.1, o125.2.2.2.2.2.2.2.2)
)
else if x95 = (4 : Int32) then (
nm (p1 >>> ((10 : Int32) &&& 31)) fun (x128 : Int32) =>
bd (f_L_low fu  x128 ((200 : Int32))) fun (o129 : Int32) =>
nm (o129 - (100 : Int32)) fun (x130 : Int32) =>
bd (f_X4_setLevel fu u_now u_history u_history_r0 u_history_r1 u_history_r2 u_history_r3 u_history_r4 u_history_r5 o94 x130) fun (o131 : Int32 × TS × TH × TS × TS × TS × TS × TS × TS) =>
nm (o131.1 + (20000 : Int32)) fun (x132 : Int32) =>
some (x132, o131.2.1, o92.2, o131.2.2.1, o131.2.2.2.1, o131.2.2.2.2.1, o131.2.2.2.2.2.1, o131.2.2.2.2.2.2.1, o131.2.2.2.2.2.2.2.1, o131.2.2.2.2.2.2.2.2)
)
else if x95 = (5 : Int32) then (
nm (p1 >>> ((10 : Int32) &&& 31)) fun (x134 : Int32) =>
bd (f_L_low fu  x134 ((200 : Int32))) fun (o135 : Int32) =>
nm (o135 - (100 : Int32)) fun (x136 : Int32) =>
bd (f_X4_setLevel fu u_now u_history u_history_r0 u_history_r1 u_history_r2 u_history_r3 u_history_r4 u_history_r5 o94 x136) fun (o137 : Int32 × TS × TH × TS × TS × TS × TS × TS × TS) =>
nm (o137.1 + (20000 : Int32)) fun (x138 : Int32) =>
some (x138, o137.2.1, o92.2, o137.2.2.1, o137.2.2.2.1, o137.2.2.2.2.1, o137.2.2.2.2.2.1, o137.2.2.2.2.2.2.1, o137.2.2.2.2.2.2.2.1, o137.2.2.2.2.2.2.2.2)
)
else if x95 = (6 : Int32) then (
nm (p1 >>> ((10 : Int32) &&& 31)) fun (x140 : Int32) =>
nm (o92.1 - o94) fun (x141 : Int32) =>
bd (f_L_low fu  x140 x141) fun (o142 : Int32) =>
nm (o94 + o142) fun (x143 : Int32) =>
nm (p1 >>> ((16 : Int32) &&& 31)) fun (x144 : Int32) =>
bd (f_L_low fu  x144 ((400 : Int32))) fun (o145 : Int32) =>
nm (o145 - (100 : Int32)) fun (x146 : Int32) =>
bd (f_X4_addJob fu u_now u_history u_history_r0 u_history_r1 u_history_r2 u_history_r3 u_history_r4 u_history_r5 o94 x143 x146) fun (o147 : Int32 × TS × TH × TS × TS × TS × TS × TS × TS) =>
some (o147.1, o147.2.1, o92.2, o147.2.2.1, o147.2.2.2.1, o147.2.2.2.2.1, o147.2.2.2.2.2.1, o147.2.2.2.2.2.2.1, o147.2.2.2.2.2.2.2.1, o147.2.2.2.2.2.2.2.2)
)
else if x95 = (7 : Int32) then (
nm (p1 >>> ((10 : Int32) &&& 31)) fun (x149 : Int32) =>
nm (o92.1 - o94) fun (x150 : Int32) =>
bd (f_L_low fu  x149 x150) fun (o151 : Int32) =>
nm (o94 + o151) fun (x152 : Int32) =>
nm (p1 >>> ((16 : Int32) &&& 31)) fun (x153 : Int32) =>
bd (f_L_low fu  x153 ((400 : Int32))) fun (o154 : Int32) =>
nm (o154 - (100 : Int32)) fun (x155 : Int32) =>
bd (f_X4_addJob fu u_now u_history u_history_r0 u_history_r1 u_history_r2 u_history_r3 u_history_r4 u_history_r5 o94 x152 x155) fun (o156 : Int32 × TS × TH × TS × TS × TS × TS × TS × TS) =>
some (o156.1, o156.2.1, o92.2, o156.2.2.1, o156.2.2.2.1, o156.2.2.2.2.1, o156.2.2.2.2.2.1, o156.2.2.2.2.2.2.1, o156.2.2.2.2.2.2.2.1, o156.2.2.2.2.2.2.2.2)
)
else if x95 = (8 : Int32) then (
bd (f_X4_cancelJobs fu u_now u_history u_history_r0 u_history_r1 u_history_r2 u_history_r3 u_history_r4 u_history_r5 o94) fun (o158 : Int32 × TS × TH × TS × TS × TS × TS × TS × TS) =>
some (o158.1, o158.2.1, o92.2, o158.2.2.1, o158.2.2.2.1, o158.2.2.2.2.1, o158.2.2.2.2.2.1, o158.2.2.2.2.2.2.1, o158.2.2.2.2.2.2.2.1, o158.2.2.2.2.2.2.2.2)
)
else if x95 = (9 : Int32) then (
nm (p1 >>> ((4 : Int32) &&& 31)) fun (x160 : Int32) =>
bd (f_L_low fu  x160 ((200 : Int32))) fun (o161 : Int32) =>
nm ((1 : Int32) + o161) fun (x162 : Int32) =>
bd (f_X4_work fu u_now u_history u_history_r0 u_history_r1 u_history_r2 u_history_r3 u_history_r4 u_history_r5 x162) fun (o163 : Int32 × TS × TH × TS × TS × TS × TS × TS × TS) =>
some (o163.1, o163.2.1, o92.2, o163.2.2.1, o163.2.2.2.1, o163.2.2.2.2.1, o163.2.2.2.2.2.1, o163.2.2.2.2.2.2.1, o163.2.2.2.2.2.2.2.1, o163.2.2.2.2.2.2.2.2)
)
else if x95 = (10 : Int32) then (
nm (p1 >>> ((4 : Int32) &&& 31)) fun (x165 : Int32) =>
bd (f_L_low fu  x165 ((200 : Int32))) fun (o166 : Int32) =>
nm ((1 : Int32) + o166) fun (x167 : Int32) =>
bd (f_X4_work fu u_now u_history u_history_r0 u_history_r1 u_history_r2 u_history_r3 u_history_r4 u_history_r5 x167) fun (o168 : Int32 × TS × TH × TS × TS × TS × TS × TS × TS) =>
some (o168.1, o168.2.1, o92.2, o168.2.2.1, o168.2.2.2.1, o168.2.2.2.2.1, o168.2.2.2.2.2.1, o168.2.2.2.2.2.2.1, o168.2.2.2.2.2.2.2.1, o168.2.2.2.2.2.2.2.2)
)
else if x95 = (11 : Int32) then (
nm (p1 >>> ((4 : Int32) &&& 31)) fun (x170 : Int32) =>
nm (x170 &&& (1 : Int32)) fun (x171 : Int32) =>
bd (f_X4_back fu u_now u_history u_history_r0 u_history_r1 u_history_r2 u_history_r3 u_history_r4 u_history_r5 u_images_r0 u_images_r1 u_kept x171) fun (o172 : Int32 × TS × TH × TS × TS × TS × TS × TS × TS) =>
some (o172.1, o172.2.1, o92.2, o172.2.2.1, o172.2.2.2.1, o172.2.2.2.2.1, o172.2.2.2.2.2.1, o172.2.2.2.2.2.2.1, o172.2.2.2.2.2.2.2.1, o172.2.2.2.2.2.2.2.2)
)
else (
nm (p1 >>> ((4 : Int32) &&& 31)) fun (x173 : Int32) =>
bd (f_L_low fu  x173 ((200 : Int32))) fun (o174 : Int32) =>
nm ((1 : Int32) + o174) fun (x175 : Int32) =>
nm (p1 >>> ((12 : Int32) &&& 31)) fun (x176 : Int32) =>
bd (f_L_low fu  x176 ((30 : Int32))) fun (o177 : Int32) =>
nm ((1 : Int32) + o177) fun (x178 : Int32) =>
nm (p1 >>> ((17 : Int32) &&& 31)) fun (x179 : Int32) =>
bd (f_L_low fu  x179 ((5 : Int32))) fun (o180 : Int32) =>
nm ((1 : Int32) + o180) fun (x181 : Int32) =>
bd (f_X4_trains fu u_now o92.2 u_history u_history_r0 u_history_r1 u_history_r2 u_history_r3 u_history_r4 u_history_r5 x175 x178 x181) fun (o182 : Int32 × TS × TV × TH × TS × TS × TS × TS × TS × TS) =>
some (o182.1, o182.2.1, o182.2.2.1, o182.2.2.2.1, o182.2.2.2.2.1, o182.2.2.2.2.2.1, o182.2.2.2.2.2.2.1, o182.2.2.2.2.2.2.2.1, o182.2.2.2.2.2.2.2.2.1, o182.2.2.2.2.2.2.2.2.2)
)

abbrev rm_L_does : Room := { frames := 6, cells := 0, slots := 0, locals := 149 }
set_option maxHeartbeats 4000000 in
set_option maxRecDepth 100000 in
theorem c_L_does (l : Launch) (D : va_G) (cT : Nat → ClassId) (g : Nat → Nat) (fu : Nat) (u_now : TS) (u_survey : TV) (u_history : TH) (u_history_r0 : TS) (u_history_r1 : TS) (u_history_r2 : TS) (u_history_r3 : TS) (u_history_r4 : TS) (u_history_r5 : TS) (u_text : TX) (u_kept : (Nat → Int32)) (u_images_r0 : TS) (u_images_r1 : TS) (p1 : Int32) (o : Int32 × TS × TV × TH × TS × TS × TS × TS × TS × TS) (hf : f_L_does fu u_now u_survey u_history u_history_r0 u_history_r1 u_history_r2 u_history_r3 u_history_r4 u_history_r5 u_text u_kept u_images_r0 u_images_r1 p1 = some o) (sz : Nat) : Met l yL_does wsL_does rm_L_does (va_Pc [.ref (g 0), .int p1] (PRE D cT sz (List.flatten [wT g, wS cT g 1 u_now, wV cT g 9 1 u_survey, wH cT g 25 u_history, wS cT g 27 u_history_r0, wS cT g 35 u_history_r1, wS cT g 43 u_history_r2, wS cT g 51 u_history_r3, wS cT g 59 u_history_r4, wS cT g 67 u_history_r5, wX cT g 75 u_text, wI cT g 77, wK cT g 94 u_kept, wS cT g 78 u_images_r0, wS cT g 86 u_images_r1]))) (QI D o.1 (List.flatten [wT g, wS cT g 1 o.2.1, wV cT g 9 1 o.2.2.1, wH cT g 25 o.2.2.2.1, wS cT g 27 o.2.2.2.2.1, wS cT g 35 o.2.2.2.2.2.1, wS cT g 43 o.2.2.2.2.2.2.1, wS cT g 51 o.2.2.2.2.2.2.2.1, wS cT g 59 o.2.2.2.2.2.2.2.2.1, wS cT g 67 o.2.2.2.2.2.2.2.2.2, wX cT g 75 u_text, wI cT g 77, wK cT g 94 u_kept, wS cT g 78 u_images_r0, wS cT g 86 u_images_r1]) (va_A (List.flatten [wT g, wS cT g 1 u_now, wV cT g 9 1 u_survey, wH cT g 25 u_history, wS cT g 27 u_history_r0, wS cT g 35 u_history_r1, wS cT g 43 u_history_r2, wS cT g 51 u_history_r3, wS cT g 59 u_history_r4, wS cT g 67 u_history_r5, wX cT g 75 u_text, wI cT g 77, wK cT g 94 u_kept, wS cT g 78 u_images_r0, wS cT g 86 u_images_r1]) sz)) 0 0 (va_A (List.flatten [wT g, wS cT g 1 u_now, wV cT g 9 1 u_survey, wH cT g 25 u_history, wS cT g 27 u_history_r0, wS cT g 35 u_history_r1, wS cT g 43 u_history_r2, wS cT g 51 u_history_r3, wS cT g 59 u_history_r4, wS cT g 67 u_history_r5, wX cT g 75 u_text, wI cT g 77, wK cT g 94 u_kept, wS cT g 78 u_images_r0, wS cT g 86 u_images_r1]) sz) := by
  refine Met.ofW (cc := cL_does) (maxL := 4) (ret := (some .int)) (by decide) rfl ?_
  intro p e s m args below meth c s₁ B0 hml hv
  obtain ⟨hav, hsz, hP, hK, hD, hN, hZ⟩ := hv
  have hx := B0.exec
  have hb := B0.bytes
  have hr := B0.returns
  have hts := atoms_spec (ws := wsL_does) B0.pre
  have hown : s.vm.findClass RL = some m.cls := findClass_of_methodNamed B0.named
  have hlocks := B0.notSynchronized
  subst hsz
  have hD := hD.self (sz := s.heap.size)
  have hA : ∀ q : Nat, s.heap.size ≤ q → va_A (List.flatten [wT g, wS cT g 1 u_now, wV cT g 9 1 u_survey, wH cT g 25 u_history, wS cT g 27 u_history_r0, wS cT g 35 u_history_r1, wS cT g 43 u_history_r2, wS cT g 51 u_history_r3, wS cT g 59 u_history_r4, wS cT g 67 u_history_r5, wX cT g 75 u_text, wI cT g 77, wK cT g 94 u_kept, wS cT g 78 u_images_r0, wS cT g 86 u_images_r1]) s.heap.size q := fun q h => Or.inr h
  generalize va_A (List.flatten [wT g, wS cT g 1 u_now, wV cT g 9 1 u_survey, wH cT g 25 u_history, wS cT g 27 u_history_r0, wS cT g 35 u_history_r1, wS cT g 43 u_history_r2, wS cT g 51 u_history_r3, wS cT g 59 u_history_r4, wS cT g 67 u_history_r5, wX cT g 75 u_text, wI cT g 77, wK cT g 94 u_kept, wS cT g 78 u_images_r0, wS cT g 86 u_images_r1]) s.heap.size = A at hD hZ hA ⊢
  have hS : va_S A s.heap s.heap [] := va_S.rf
  have hl := lv_entry ([.ref (g 0), .int p1]) (n := 4) (Nat.le_of_ble_eq_true rfl)
  rw [hav]
  rw [lg_entry_eq]
  generalize (lg_sl ([.ref (g 0), .int p1]) ++ List.replicate (4 - (lg_sl ([.ref (g 0), .int p1])).length) Slot.unset).toArray = ls at hl ⊢
  have hl : lv_has ls 4 [(0, .ref (g 0)), (1, .int p1)] := hl
  rw [← hav]
  generalize hQ : MQ below _ _ _ _ _ _ = Q
  show W p l e rm_L_does s m args below meth c s.heap [] 0 0 Q (F0 m 0 ls [])
  unfold f_L_does at hf
  refine lv_aload_n hx hb dL_does_0 rfl (lv_at hl 0 rfl) ?_
  refine lv_iconst (v := 0) hx hb dL_does_1 (by decide) ?_
  obtain ⟨o92, ho92, hf⟩ := bd_i hf
  refine cl_i [0, 1, 2, 3, 10, 12] [4, 5, 6, 7, 8, 9, 11, 13, 14] [wT g, wS cT g 1 u_now, wV cT g 9 1 o92.2, wH cT g 25 u_history, wS cT g 27 u_history_r0, wS cT g 35 u_history_r1, wS cT g 43 u_history_r2, wS cT g 51 u_history_r3, wS cT g 59 u_history_r4, wS cT g 67 u_history_r5, wX cT g 75 u_text, wI cT g 77, wK cT g 94 u_kept, wS cT g 78 u_images_r0, wS cT g 86 u_images_r1] hP (va_D_adr hD rfl) hA hS (va_runV (As := [.int ((0 : Int32))]) (rest := []) ⟨hx, hb, hml, hown, hts⟩ (c_X4_count l D cT g  fu u_now u_survey u_history u_text u_kept ((0 : Int32)) o92 ho92 _) (cwV 1 hts gL_does_X4_count rfl rfl rfl (by decide +kernel) ⟨Nat.le_of_ble_eq_true rfl, Nat.le_of_ble_eq_true rfl⟩) ⟨PRE_blind, va_recv hK hP (ci := 4) (q0 := 0) rfl rfl, PRE_ok [0, 1, 2, 3, 10, 12] (by decide) hP (va_D_adr hD rfl) hA hS hK hN hZ⟩ rfl rfl hl.1 rfl (lv_room (Nat.le_of_ble_eq_true rfl)) dL_does_2 ⟨Nat.le_of_ble_eq_true rfl, Nat.le_of_ble_eq_true rfl⟩) rfl 15 rfl (by decide) (by decide) (fun H locs hP hS => ?_)
  refine lv_istore_n (lv' := [(2, .int o92.1), (0, .ref (g 0)), (1, .int p1)]) hx hb dL_does_5 rfl hl (by decide) rfl (fun ls hl => ?_)
  refine lv_iload_n hx hb dL_does_6 rfl (lv_at hl 2 rfl) ?_
  refine lv_iconst (v := 4) hx hb dL_does_7 (by decide) ?_
  refine lv_ishr hx hb dL_does_8 ?_
  refine lv_topi (fun x93 ex93 => ?_)
  replace hf := nm_i hf ex93
  refine lv_iload_n hx hb dL_does_9 rfl (lv_at hl 0 rfl) ?_
  obtain ⟨o94, ho94, hf⟩ := bd_i hf
  refine cl_i [] [0, 1, 2, 3, 4, 5, 6, 7, 8, 9, 10, 11, 12, 13, 14] [wT g, wS cT g 1 u_now, wV cT g 9 1 o92.2, wH cT g 25 u_history, wS cT g 27 u_history_r0, wS cT g 35 u_history_r1, wS cT g 43 u_history_r2, wS cT g 51 u_history_r3, wS cT g 59 u_history_r4, wS cT g 67 u_history_r5, wX cT g 75 u_text, wI cT g 77, wK cT g 94 u_kept, wS cT g 78 u_images_r0, wS cT g 86 u_images_r1] hP (va_D_adr hD rfl) hA hS (va_runS (As := [.int x93, .int o92.1]) (rest := []) ⟨hx, hb, hml, hown, hts⟩ (c_L_low l D cT g  fu  x93 o92.1 o94 ho94 _) (va_cwS 2 hts gL_does_L_low rfl rfl rfl (by decide +kernel) ⟨Nat.le_of_ble_eq_true rfl, Nat.le_of_ble_eq_true rfl⟩) ⟨PRE_blind, PRE_ok [] (by decide) hP (va_D_adr hD rfl) hA hS hK hN hZ⟩ rfl rfl hl.1 rfl (lv_room (Nat.le_of_ble_eq_true rfl)) dL_does_10 ⟨Nat.le_of_ble_eq_true rfl, Nat.le_of_ble_eq_true rfl⟩) rfl 15 rfl (by decide) (by decide) (fun H locs hP hS => ?_)
  refine lv_istore_n (lv' := [(3, .int o94), (2, .int o92.1), (0, .ref (g 0)), (1, .int p1)]) hx hb dL_does_13 rfl hl (by decide) rfl (fun ls hl => ?_)
  refine lv_iload_n hx hb dL_does_14 rfl (lv_at hl 3 rfl) ?_
  refine lv_bipush (v := 15) hx hb dL_does_15 (by decide) ?_
  refine lv_iand hx hb dL_does_17 ?_
  refine lv_topi (fun x95 ex95 => ?_)
  replace hf := nm_i hf ex95
  by_cases c96 : x95 = (0 : Int32)
  · replace hf := it_t hf c96
    refine lv_tableIn (off := 62) (tgt := 80) hx hb dL_does_18 (by rw [c96]; decide) (by rw [c96]; decide) (by rw [c96]; rfl) (by decide) ?_
    refine lv_iload_n hx hb dL_does_80 rfl (lv_at hl 3 rfl) ?_
    refine lv_iconst (v := 4) hx hb dL_does_81 (by decide) ?_
    refine lv_ishr hx hb dL_does_82 ?_
    refine lv_topi (fun x97 ex97 => ?_)
    replace hf := nm_i hf ex97
    refine lv_iconst (v := 3) hx hb dL_does_83 (by decide) ?_
    refine lv_iand hx hb dL_does_84 ?_
    refine lv_topi (fun x98 ex98 => ?_)
    replace hf := nm_i hf ex98
    refine lv_if_ne (tgt := 107) hx hb dL_does_85 (by decide) (fun c99 => ?_) (fun c99 => ?_)
    · replace hf := it_t hf c99
      refine lv_aload_n hx hb dL_does_107 rfl (lv_at hl 2 rfl) ?_
      refine lv_iload_n hx hb dL_does_108 rfl (lv_at hl 0 rfl) ?_
      refine lv_iload_n hx hb dL_does_109 rfl (lv_at hl 0 rfl) ?_
      refine lv_iload_n hx hb dL_does_110 rfl (lv_at hl 3 rfl) ?_
      refine lv_bipush (v := 10) hx hb dL_does_111 (by decide) ?_
      refine lv_ishr hx hb dL_does_113 ?_
      refine lv_topi (fun x100 ex100 => ?_)
      replace hf := nm_i hf ex100
      refine lv_iconst (v := 3) hx hb dL_does_114 (by decide) ?_
      obtain ⟨o101, ho101, hf⟩ := bd_i hf
      refine cl_i [] [0, 1, 2, 3, 4, 5, 6, 7, 8, 9, 10, 11, 12, 13, 14] [wT g, wS cT g 1 u_now, wV cT g 9 1 o92.2, wH cT g 25 u_history, wS cT g 27 u_history_r0, wS cT g 35 u_history_r1, wS cT g 43 u_history_r2, wS cT g 51 u_history_r3, wS cT g 59 u_history_r4, wS cT g 67 u_history_r5, wX cT g 75 u_text, wI cT g 77, wK cT g 94 u_kept, wS cT g 78 u_images_r0, wS cT g 86 u_images_r1] hP (va_D_adr hD rfl) hA hS (va_runS (As := [.int x100, .int ((3 : Int32))]) (rest := [.int o94, .int o94, .ref (g 0)]) ⟨hx, hb, hml, hown, hts⟩ (c_L_low l D cT g  fu  x100 ((3 : Int32)) o101 ho101 _) (va_cwS 2 hts gL_does_L_low rfl rfl rfl (by decide +kernel) ⟨Nat.le_of_ble_eq_true rfl, Nat.le_of_ble_eq_true rfl⟩) ⟨PRE_blind, PRE_ok [] (by decide) hP (va_D_adr hD rfl) hA hS hK hN hZ⟩ rfl rfl hl.1 rfl (lv_room (Nat.le_of_ble_eq_true rfl)) dL_does_115 ⟨Nat.le_of_ble_eq_true rfl, Nat.le_of_ble_eq_true rfl⟩) rfl 15 rfl (by decide) (by decide) (fun H locs hP hS => ?_)
      refine lv_iadd hx hb dL_does_118 ?_
      refine lv_topi (fun x102 ex102 => ?_)
      replace hf := nm_i hf ex102
      obtain ⟨o103, ho103, hf⟩ := bd_i hf
      refine cl_i [0, 1, 3, 4, 5, 6, 7, 8, 9] [2, 10, 11, 12, 13, 14] [wT g, wS cT g 1 o103.2.1, wV cT g 9 1 o92.2, wH cT g 25 o103.2.2.1, wS cT g 27 o103.2.2.2.1, wS cT g 35 o103.2.2.2.2.1, wS cT g 43 o103.2.2.2.2.2.1, wS cT g 51 o103.2.2.2.2.2.2.1, wS cT g 59 o103.2.2.2.2.2.2.2.1, wS cT g 67 o103.2.2.2.2.2.2.2.2, wX cT g 75 u_text, wI cT g 77, wK cT g 94 u_kept, wS cT g 78 u_images_r0, wS cT g 86 u_images_r1] hP (va_D_adr hD rfl) hA hS (va_runV (As := [.int o94, .int x102]) (rest := []) ⟨hx, hb, hml, hown, hts⟩ (c_X4_renew l D cT g  fu u_now u_history u_history_r0 u_history_r1 u_history_r2 u_history_r3 u_history_r4 u_history_r5 o94 x102 o103 ho103 _) (cwV 2 hts gL_does_X4_renew rfl rfl rfl (by decide +kernel) ⟨Nat.le_of_ble_eq_true rfl, Nat.le_of_ble_eq_true rfl⟩) ⟨PRE_blind, va_recv hK hP (ci := 4) (q0 := 0) rfl rfl, PRE_ok [0, 1, 3, 4, 5, 6, 7, 8, 9] (by decide) hP (va_D_adr hD rfl) hA hS hK hN hZ⟩ rfl rfl hl.1 rfl (lv_room (Nat.le_of_ble_eq_true rfl)) dL_does_119 ⟨Nat.le_of_ble_eq_true rfl, Nat.le_of_ble_eq_true rfl⟩) rfl 15 rfl (by decide) (by decide) (fun H locs hP hS => ?_)
      obtain rfl := Option.some.inj hf
      subst hQ
      exact en_i hx hb hr hP hS hlocks dL_does_122
    · replace hf := it_f hf (not_not_intro c99)
      refine lv_aload_n hx hb dL_does_88 rfl (lv_at hl 2 rfl) ?_
      refine lv_bipush (v := 10) hx hb dL_does_89 (by decide) ?_
      refine lv_iload_n hx hb dL_does_91 rfl (lv_at hl 3 rfl) ?_
      refine lv_bipush (v := 6) hx hb dL_does_92 (by decide) ?_
      refine lv_ishr hx hb dL_does_94 ?_
      refine lv_topi (fun x104 ex104 => ?_)
      replace hf := nm_i hf ex104
      refine lv_bipush (v := 51) hx hb dL_does_95 (by decide) ?_
      obtain ⟨o105, ho105, hf⟩ := bd_i hf
      refine cl_i [] [0, 1, 2, 3, 4, 5, 6, 7, 8, 9, 10, 11, 12, 13, 14] [wT g, wS cT g 1 u_now, wV cT g 9 1 o92.2, wH cT g 25 u_history, wS cT g 27 u_history_r0, wS cT g 35 u_history_r1, wS cT g 43 u_history_r2, wS cT g 51 u_history_r3, wS cT g 59 u_history_r4, wS cT g 67 u_history_r5, wX cT g 75 u_text, wI cT g 77, wK cT g 94 u_kept, wS cT g 78 u_images_r0, wS cT g 86 u_images_r1] hP (va_D_adr hD rfl) hA hS (va_runS (As := [.int x104, .int ((51 : Int32))]) (rest := [.int ((10 : Int32)), .ref (g 0)]) ⟨hx, hb, hml, hown, hts⟩ (c_L_low l D cT g  fu  x104 ((51 : Int32)) o105 ho105 _) (va_cwS 2 hts gL_does_L_low rfl rfl rfl (by decide +kernel) ⟨Nat.le_of_ble_eq_true rfl, Nat.le_of_ble_eq_true rfl⟩) ⟨PRE_blind, PRE_ok [] (by decide) hP (va_D_adr hD rfl) hA hS hK hN hZ⟩ rfl rfl hl.1 rfl (lv_room (Nat.le_of_ble_eq_true rfl)) dL_does_97 ⟨Nat.le_of_ble_eq_true rfl, Nat.le_of_ble_eq_true rfl⟩) rfl 15 rfl (by decide) (by decide) (fun H locs hP hS => ?_)
      refine lv_iadd hx hb dL_does_100 ?_
      refine lv_topi (fun x106 ex106 => ?_)
      replace hf := nm_i hf ex106
      obtain ⟨o107, ho107, hf⟩ := bd_i hf
      refine cl_i [0, 1, 3, 4, 5, 6, 7, 8, 9] [2, 10, 11, 12, 13, 14] [wT g, wS cT g 1 o107.2.1, wV cT g 9 1 o92.2, wH cT g 25 o107.2.2.1, wS cT g 27 o107.2.2.2.1, wS cT g 35 o107.2.2.2.2.1, wS cT g 43 o107.2.2.2.2.2.1, wS cT g 51 o107.2.2.2.2.2.2.1, wS cT g 59 o107.2.2.2.2.2.2.2.1, wS cT g 67 o107.2.2.2.2.2.2.2.2, wX cT g 75 u_text, wI cT g 77, wK cT g 94 u_kept, wS cT g 78 u_images_r0, wS cT g 86 u_images_r1] hP (va_D_adr hD rfl) hA hS (va_runV (As := [.int x106]) (rest := []) ⟨hx, hb, hml, hown, hts⟩ (c_X4_begin l D cT g  fu u_now u_history u_history_r0 u_history_r1 u_history_r2 u_history_r3 u_history_r4 u_history_r5 x106 o107 ho107 _) (cwV 1 hts gL_does_X4_begin rfl rfl rfl (by decide +kernel) ⟨Nat.le_of_ble_eq_true rfl, Nat.le_of_ble_eq_true rfl⟩) ⟨PRE_blind, va_recv hK hP (ci := 4) (q0 := 0) rfl rfl, PRE_ok [0, 1, 3, 4, 5, 6, 7, 8, 9] (by decide) hP (va_D_adr hD rfl) hA hS hK hN hZ⟩ rfl rfl hl.1 rfl (lv_room (Nat.le_of_ble_eq_true rfl)) dL_does_101 ⟨Nat.le_of_ble_eq_true rfl, Nat.le_of_ble_eq_true rfl⟩) rfl 15 rfl (by decide) (by decide) (fun H locs hP hS => ?_)
      refine lv_goto (tgt := 122) hx hb dL_does_104 (by decide) ?_
      obtain rfl := Option.some.inj hf
      subst hQ
      exact en_i hx hb hr hP hS hlocks dL_does_122
  replace hf := it_f hf c96
  by_cases c108 : x95 = (1 : Int32)
  · replace hf := it_t hf c108
    refine lv_tableIn (off := 105) (tgt := 123) hx hb dL_does_18 (by rw [c108]; decide) (by rw [c108]; decide) (by rw [c108]; rfl) (by decide) ?_
    refine lv_aload_n hx hb dL_does_123 rfl (lv_at hl 2 rfl) ?_
    refine lv_iload_n hx hb dL_does_124 rfl (lv_at hl 3 rfl) ?_
    refine lv_iconst (v := 4) hx hb dL_does_125 (by decide) ?_
    refine lv_ishr hx hb dL_does_126 ?_
    refine lv_topi (fun x109 ex109 => ?_)
    replace hf := nm_i hf ex109
    refine lv_bipush (v := 8) hx hb dL_does_127 (by decide) ?_
    obtain ⟨o110, ho110, hf⟩ := bd_i hf
    refine cl_i [] [0, 1, 2, 3, 4, 5, 6, 7, 8, 9, 10, 11, 12, 13, 14] [wT g, wS cT g 1 u_now, wV cT g 9 1 o92.2, wH cT g 25 u_history, wS cT g 27 u_history_r0, wS cT g 35 u_history_r1, wS cT g 43 u_history_r2, wS cT g 51 u_history_r3, wS cT g 59 u_history_r4, wS cT g 67 u_history_r5, wX cT g 75 u_text, wI cT g 77, wK cT g 94 u_kept, wS cT g 78 u_images_r0, wS cT g 86 u_images_r1] hP (va_D_adr hD rfl) hA hS (va_runS (As := [.int x109, .int ((8 : Int32))]) (rest := [.ref (g 0)]) ⟨hx, hb, hml, hown, hts⟩ (c_L_low l D cT g  fu  x109 ((8 : Int32)) o110 ho110 _) (va_cwS 2 hts gL_does_L_low rfl rfl rfl (by decide +kernel) ⟨Nat.le_of_ble_eq_true rfl, Nat.le_of_ble_eq_true rfl⟩) ⟨PRE_blind, PRE_ok [] (by decide) hP (va_D_adr hD rfl) hA hS hK hN hZ⟩ rfl rfl hl.1 rfl (lv_room (Nat.le_of_ble_eq_true rfl)) dL_does_129 ⟨Nat.le_of_ble_eq_true rfl, Nat.le_of_ble_eq_true rfl⟩) rfl 15 rfl (by decide) (by decide) (fun H locs hP hS => ?_)
    refine lv_iconst (v := 1) hx hb dL_does_132 (by decide) ?_
    refine lv_iload_n hx hb dL_does_133 rfl (lv_at hl 3 rfl) ?_
    refine lv_bipush (v := 7) hx hb dL_does_134 (by decide) ?_
    refine lv_ishr hx hb dL_does_136 ?_
    refine lv_topi (fun x111 ex111 => ?_)
    replace hf := nm_i hf ex111
    refine lv_bipush (v := 100) hx hb dL_does_137 (by decide) ?_
    obtain ⟨o112, ho112, hf⟩ := bd_i hf
    refine cl_i [] [0, 1, 2, 3, 4, 5, 6, 7, 8, 9, 10, 11, 12, 13, 14] [wT g, wS cT g 1 u_now, wV cT g 9 1 o92.2, wH cT g 25 u_history, wS cT g 27 u_history_r0, wS cT g 35 u_history_r1, wS cT g 43 u_history_r2, wS cT g 51 u_history_r3, wS cT g 59 u_history_r4, wS cT g 67 u_history_r5, wX cT g 75 u_text, wI cT g 77, wK cT g 94 u_kept, wS cT g 78 u_images_r0, wS cT g 86 u_images_r1] hP (va_D_adr hD rfl) hA hS (va_runS (As := [.int x111, .int ((100 : Int32))]) (rest := [.int ((1 : Int32)), .int o110, .ref (g 0)]) ⟨hx, hb, hml, hown, hts⟩ (c_L_low l D cT g  fu  x111 ((100 : Int32)) o112 ho112 _) (va_cwS 2 hts gL_does_L_low rfl rfl rfl (by decide +kernel) ⟨Nat.le_of_ble_eq_true rfl, Nat.le_of_ble_eq_true rfl⟩) ⟨PRE_blind, PRE_ok [] (by decide) hP (va_D_adr hD rfl) hA hS hK hN hZ⟩ rfl rfl hl.1 rfl (lv_room (Nat.le_of_ble_eq_true rfl)) dL_does_139 ⟨Nat.le_of_ble_eq_true rfl, Nat.le_of_ble_eq_true rfl⟩) rfl 15 rfl (by decide) (by decide) (fun H locs hP hS => ?_)
    refine lv_iadd hx hb dL_does_142 ?_
    refine lv_topi (fun x113 ex113 => ?_)
    replace hf := nm_i hf ex113
    obtain ⟨o114, ho114, hf⟩ := bd_i hf
    refine cl_i [0, 1, 3, 4, 5, 6, 7, 8, 9] [2, 10, 11, 12, 13, 14] [wT g, wS cT g 1 o114.2.1, wV cT g 9 1 o92.2, wH cT g 25 o114.2.2.1, wS cT g 27 o114.2.2.2.1, wS cT g 35 o114.2.2.2.2.1, wS cT g 43 o114.2.2.2.2.2.1, wS cT g 51 o114.2.2.2.2.2.2.1, wS cT g 59 o114.2.2.2.2.2.2.2.1, wS cT g 67 o114.2.2.2.2.2.2.2.2, wX cT g 75 u_text, wI cT g 77, wK cT g 94 u_kept, wS cT g 78 u_images_r0, wS cT g 86 u_images_r1] hP (va_D_adr hD rfl) hA hS (va_runV (As := [.int o110, .int x113]) (rest := []) ⟨hx, hb, hml, hown, hts⟩ (c_X4_setNumber l D cT g  fu u_now u_history u_history_r0 u_history_r1 u_history_r2 u_history_r3 u_history_r4 u_history_r5 o110 x113 o114 ho114 _) (cwV 2 hts gL_does_X4_setNumber rfl rfl rfl (by decide +kernel) ⟨Nat.le_of_ble_eq_true rfl, Nat.le_of_ble_eq_true rfl⟩) ⟨PRE_blind, va_recv hK hP (ci := 4) (q0 := 0) rfl rfl, PRE_ok [0, 1, 3, 4, 5, 6, 7, 8, 9] (by decide) hP (va_D_adr hD rfl) hA hS hK hN hZ⟩ rfl rfl hl.1 rfl (lv_room (Nat.le_of_ble_eq_true rfl)) dL_does_143 ⟨Nat.le_of_ble_eq_true rfl, Nat.le_of_ble_eq_true rfl⟩) rfl 15 rfl (by decide) (by decide) (fun H locs hP hS => ?_)
    obtain rfl := Option.some.inj hf
    subst hQ
    exact en_i hx hb hr hP hS hlocks dL_does_146
  replace hf := it_f hf c108
  by_cases c115 : x95 = (2 : Int32)
  · replace hf := it_t hf c115
    refine lv_tableIn (off := 129) (tgt := 147) hx hb dL_does_18 (by rw [c115]; decide) (by rw [c115]; decide) (by rw [c115]; rfl) (by decide) ?_
    refine lv_aload_n hx hb dL_does_147 rfl (lv_at hl 2 rfl) ?_
    refine lv_iload_n hx hb dL_does_148 rfl (lv_at hl 0 rfl) ?_
    refine lv_iload_n hx hb dL_does_149 rfl (lv_at hl 3 rfl) ?_
    refine lv_bipush (v := 10) hx hb dL_does_150 (by decide) ?_
    refine lv_ishr hx hb dL_does_152 ?_
    refine lv_topi (fun x116 ex116 => ?_)
    replace hf := nm_i hf ex116
    refine lv_sipush (v := 200) hx hb dL_does_153 (by decide) ?_
    obtain ⟨o117, ho117, hf⟩ := bd_i hf
    refine cl_i [] [0, 1, 2, 3, 4, 5, 6, 7, 8, 9, 10, 11, 12, 13, 14] [wT g, wS cT g 1 u_now, wV cT g 9 1 o92.2, wH cT g 25 u_history, wS cT g 27 u_history_r0, wS cT g 35 u_history_r1, wS cT g 43 u_history_r2, wS cT g 51 u_history_r3, wS cT g 59 u_history_r4, wS cT g 67 u_history_r5, wX cT g 75 u_text, wI cT g 77, wK cT g 94 u_kept, wS cT g 78 u_images_r0, wS cT g 86 u_images_r1] hP (va_D_adr hD rfl) hA hS (va_runS (As := [.int x116, .int ((200 : Int32))]) (rest := [.int o94, .ref (g 0)]) ⟨hx, hb, hml, hown, hts⟩ (c_L_low l D cT g  fu  x116 ((200 : Int32)) o117 ho117 _) (va_cwS 2 hts gL_does_L_low rfl rfl rfl (by decide +kernel) ⟨Nat.le_of_ble_eq_true rfl, Nat.le_of_ble_eq_true rfl⟩) ⟨PRE_blind, PRE_ok [] (by decide) hP (va_D_adr hD rfl) hA hS hK hN hZ⟩ rfl rfl hl.1 rfl (lv_room (Nat.le_of_ble_eq_true rfl)) dL_does_156 ⟨Nat.le_of_ble_eq_true rfl, Nat.le_of_ble_eq_true rfl⟩) rfl 15 rfl (by decide) (by decide) (fun H locs hP hS => ?_)
    refine lv_bipush (v := 100) hx hb dL_does_159 (by decide) ?_
    refine lv_isub hx hb dL_does_161 ?_
    refine lv_topi (fun x118 ex118 => ?_)
    replace hf := nm_i hf ex118
    obtain ⟨o119, ho119, hf⟩ := bd_i hf
    refine cl_i [0, 1, 3, 4, 5, 6, 7, 8, 9] [2, 10, 11, 12, 13, 14] [wT g, wS cT g 1 o119.2.1, wV cT g 9 1 o92.2, wH cT g 25 o119.2.2.1, wS cT g 27 o119.2.2.2.1, wS cT g 35 o119.2.2.2.2.1, wS cT g 43 o119.2.2.2.2.2.1, wS cT g 51 o119.2.2.2.2.2.2.1, wS cT g 59 o119.2.2.2.2.2.2.2.1, wS cT g 67 o119.2.2.2.2.2.2.2.2, wX cT g 75 u_text, wI cT g 77, wK cT g 94 u_kept, wS cT g 78 u_images_r0, wS cT g 86 u_images_r1] hP (va_D_adr hD rfl) hA hS (va_runV (As := [.int o94, .int x118]) (rest := []) ⟨hx, hb, hml, hown, hts⟩ (c_X4_setLevel l D cT g  fu u_now u_history u_history_r0 u_history_r1 u_history_r2 u_history_r3 u_history_r4 u_history_r5 o94 x118 o119 ho119 _) (cwV 2 hts gL_does_X4_setLevel rfl rfl rfl (by decide +kernel) ⟨Nat.le_of_ble_eq_true rfl, Nat.le_of_ble_eq_true rfl⟩) ⟨PRE_blind, va_recv hK hP (ci := 4) (q0 := 0) rfl rfl, PRE_ok [0, 1, 3, 4, 5, 6, 7, 8, 9] (by decide) hP (va_D_adr hD rfl) hA hS hK hN hZ⟩ rfl rfl hl.1 rfl (lv_room (Nat.le_of_ble_eq_true rfl)) dL_does_162 ⟨Nat.le_of_ble_eq_true rfl, Nat.le_of_ble_eq_true rfl⟩) rfl 15 rfl (by decide) (by decide) (fun H locs hP hS => ?_)
    refine lv_sipush (v := 20000) hx hb dL_does_165 (by decide) ?_
    refine lv_iadd hx hb dL_does_168 ?_
    refine lv_topi (fun x120 ex120 => ?_)
    replace hf := nm_i hf ex120
    obtain rfl := Option.some.inj hf
    subst hQ
    exact en_i hx hb hr hP hS hlocks dL_does_169
  replace hf := it_f hf c115
  by_cases c121 : x95 = (3 : Int32)
  · replace hf := it_t hf c121
    refine lv_tableIn (off := 129) (tgt := 147) hx hb dL_does_18 (by rw [c121]; decide) (by rw [c121]; decide) (by rw [c121]; rfl) (by decide) ?_
    refine lv_aload_n hx hb dL_does_147 rfl (lv_at hl 2 rfl) ?_
    refine lv_iload_n hx hb dL_does_148 rfl (lv_at hl 0 rfl) ?_
    refine lv_iload_n hx hb dL_does_149 rfl (lv_at hl 3 rfl) ?_
    refine lv_bipush (v := 10) hx hb dL_does_150 (by decide) ?_
    refine lv_ishr hx hb dL_does_152 ?_
    refine lv_topi (fun x122 ex122 => ?_)
    replace hf := nm_i hf ex122
    refine lv_sipush (v := 200) hx hb dL_does_153 (by decide) ?_
    obtain ⟨o123, ho123, hf⟩ := bd_i hf
    refine cl_i [] [0, 1, 2, 3, 4, 5, 6, 7, 8, 9, 10, 11, 12, 13, 14] [wT g, wS cT g 1 u_now, wV cT g 9 1 o92.2, wH cT g 25 u_history, wS cT g 27 u_history_r0, wS cT g 35 u_history_r1, wS cT g 43 u_history_r2, wS cT g 51 u_history_r3, wS cT g 59 u_history_r4, wS cT g 67 u_history_r5, wX cT g 75 u_text, wI cT g 77, wK cT g 94 u_kept, wS cT g 78 u_images_r0, wS cT g 86 u_images_r1] hP (va_D_adr hD rfl) hA hS (va_runS (As := [.int x122, .int ((200 : Int32))]) (rest := [.int o94, .ref (g 0)]) ⟨hx, hb, hml, hown, hts⟩ (c_L_low l D cT g  fu  x122 ((200 : Int32)) o123 ho123 _) (va_cwS 2 hts gL_does_L_low rfl rfl rfl (by decide +kernel) ⟨Nat.le_of_ble_eq_true rfl, Nat.le_of_ble_eq_true rfl⟩) ⟨PRE_blind, PRE_ok [] (by decide) hP (va_D_adr hD rfl) hA hS hK hN hZ⟩ rfl rfl hl.1 rfl (lv_room (Nat.le_of_ble_eq_true rfl)) dL_does_156 ⟨Nat.le_of_ble_eq_true rfl, Nat.le_of_ble_eq_true rfl⟩) rfl 15 rfl (by decide) (by decide) (fun H locs hP hS => ?_)
    refine lv_bipush (v := 100) hx hb dL_does_159 (by decide) ?_
    refine lv_isub hx hb dL_does_161 ?_
    refine lv_topi (fun x124 ex124 => ?_)
    replace hf := nm_i hf ex124
    obtain ⟨o125, ho125, hf⟩ := bd_i hf
    refine cl_i [0, 1, 3, 4, 5, 6, 7, 8, 9] [2, 10, 11, 12, 13, 14] [wT g, wS cT g 1 o125.2.1, wV cT g 9 1 o92.2, wH cT g 25 o125.2.2.1, wS cT g 27 o125.2.2.2.1, wS cT g 35 o125.2.2.2.2.1, wS cT g 43 o125.2.2.2.2.2.1, wS cT g 51 o125.2.2.2.2.2.2.1, wS cT g 59 o125.2.2.2.2.2.2.2.1, wS cT g 67 o125.2.2.2.2.2.2.2.2, wX cT g 75 u_text, wI cT g 77, wK cT g 94 u_kept, wS cT g 78 u_images_r0, wS cT g 86 u_images_r1] hP (va_D_adr hD rfl) hA hS (va_runV (As := [.int o94, .int x124]) (rest := []) ⟨hx, hb, hml, hown, hts⟩ (c_X4_setLevel l D cT g  fu u_now u_history u_history_r0 u_history_r1 u_history_r2 u_history_r3 u_history_r4 u_history_r5 o94 x124 o125 ho125 _) (cwV 2 hts gL_does_X4_setLevel rfl rfl rfl (by decide +kernel) ⟨Nat.le_of_ble_eq_true rfl, Nat.le_of_ble_eq_true rfl⟩) ⟨PRE_blind, va_recv hK hP (ci := 4) (q0 := 0) rfl rfl, PRE_ok [0, 1, 3, 4, 5, 6, 7, 8, 9] (by decide) hP (va_D_adr hD rfl) hA hS hK hN hZ⟩ rfl rfl hl.1 rfl (lv_room (Nat.le_of_ble_eq_true rfl)) dL_does_162 ⟨Nat.le_of_ble_eq_true rfl, Nat.le_of_ble_eq_true rfl⟩) rfl 15 rfl (by decide) (by decide) (fun H locs hP hS => ?_)
    refine lv_sipush (v := 20000) hx hb dL_does_165 (by decide) ?_
    refine lv_iadd hx hb dL_does_168 ?_
    refine lv_topi (fun x126 ex126 => ?_)
    replace hf := nm_i hf ex126
    obtain rfl := Option.some.inj hf
    subst hQ
    exact en_i hx hb hr hP hS hlocks dL_does_169
  replace hf := it_f hf c121
  by_cases c127 : x95 = (4 : Int32)
  · replace hf := it_t hf c127
    refine lv_tableIn (off := 129) (tgt := 147) hx hb dL_does_18 (by rw [c127]; decide) (by rw [c127]; decide) (by rw [c127]; rfl) (by decide) ?_
    refine lv_aload_n hx hb dL_does_147 rfl (lv_at hl 2 rfl) ?_
    refine lv_iload_n hx hb dL_does_148 rfl (lv_at hl 0 rfl) ?_
    refine lv_iload_n hx hb dL_does_149 rfl (lv_at hl 3 rfl) ?_
    refine lv_bipush (v := 10) hx hb dL_does_150 (by decide) ?_
    refine lv_ishr hx hb dL_does_152 ?_
    refine lv_topi (fun x128 ex128 => ?_)
    replace hf := nm_i hf ex128
    refine lv_sipush (v := 200) hx hb dL_does_153 (by decide) ?_
    obtain ⟨o129, ho129, hf⟩ := bd_i hf
    refine cl_i [] [0, 1, 2, 3, 4, 5, 6, 7, 8, 9, 10, 11, 12, 13, 14] [wT g, wS cT g 1 u_now, wV cT g 9 1 o92.2, wH cT g 25 u_history, wS cT g 27 u_history_r0, wS cT g 35 u_history_r1, wS cT g 43 u_history_r2, wS cT g 51 u_history_r3, wS cT g 59 u_history_r4, wS cT g 67 u_history_r5, wX cT g 75 u_text, wI cT g 77, wK cT g 94 u_kept, wS cT g 78 u_images_r0, wS cT g 86 u_images_r1] hP (va_D_adr hD rfl) hA hS (va_runS (As := [.int x128, .int ((200 : Int32))]) (rest := [.int o94, .ref (g 0)]) ⟨hx, hb, hml, hown, hts⟩ (c_L_low l D cT g  fu  x128 ((200 : Int32)) o129 ho129 _) (va_cwS 2 hts gL_does_L_low rfl rfl rfl (by decide +kernel) ⟨Nat.le_of_ble_eq_true rfl, Nat.le_of_ble_eq_true rfl⟩) ⟨PRE_blind, PRE_ok [] (by decide) hP (va_D_adr hD rfl) hA hS hK hN hZ⟩ rfl rfl hl.1 rfl (lv_room (Nat.le_of_ble_eq_true rfl)) dL_does_156 ⟨Nat.le_of_ble_eq_true rfl, Nat.le_of_ble_eq_true rfl⟩) rfl 15 rfl (by decide) (by decide) (fun H locs hP hS => ?_)
    refine lv_bipush (v := 100) hx hb dL_does_159 (by decide) ?_
    refine lv_isub hx hb dL_does_161 ?_
    refine lv_topi (fun x130 ex130 => ?_)
    replace hf := nm_i hf ex130
    obtain ⟨o131, ho131, hf⟩ := bd_i hf
    refine cl_i [0, 1, 3, 4, 5, 6, 7, 8, 9] [2, 10, 11, 12, 13, 14] [wT g, wS cT g 1 o131.2.1, wV cT g 9 1 o92.2, wH cT g 25 o131.2.2.1, wS cT g 27 o131.2.2.2.1, wS cT g 35 o131.2.2.2.2.1, wS cT g 43 o131.2.2.2.2.2.1, wS cT g 51 o131.2.2.2.2.2.2.1, wS cT g 59 o131.2.2.2.2.2.2.2.1, wS cT g 67 o131.2.2.2.2.2.2.2.2, wX cT g 75 u_text, wI cT g 77, wK cT g 94 u_kept, wS cT g 78 u_images_r0, wS cT g 86 u_images_r1] hP (va_D_adr hD rfl) hA hS (va_runV (As := [.int o94, .int x130]) (rest := []) ⟨hx, hb, hml, hown, hts⟩ (c_X4_setLevel l D cT g  fu u_now u_history u_history_r0 u_history_r1 u_history_r2 u_history_r3 u_history_r4 u_history_r5 o94 x130 o131 ho131 _) (cwV 2 hts gL_does_X4_setLevel rfl rfl rfl (by decide +kernel) ⟨Nat.le_of_ble_eq_true rfl, Nat.le_of_ble_eq_true rfl⟩) ⟨PRE_blind, va_recv hK hP (ci := 4) (q0 := 0) rfl rfl, PRE_ok [0, 1, 3, 4, 5, 6, 7, 8, 9] (by decide) hP (va_D_adr hD rfl) hA hS hK hN hZ⟩ rfl rfl hl.1 rfl (lv_room (Nat.le_of_ble_eq_true rfl)) dL_does_162 ⟨Nat.le_of_ble_eq_true rfl, Nat.le_of_ble_eq_true rfl⟩) rfl 15 rfl (by decide) (by decide) (fun H locs hP hS => ?_)
    refine lv_sipush (v := 20000) hx hb dL_does_165 (by decide) ?_
    refine lv_iadd hx hb dL_does_168 ?_
    refine lv_topi (fun x132 ex132 => ?_)
    replace hf := nm_i hf ex132
    obtain rfl := Option.some.inj hf
    subst hQ
    exact en_i hx hb hr hP hS hlocks dL_does_169
  replace hf := it_f hf c127
  by_cases c133 : x95 = (5 : Int32)
  · replace hf := it_t hf c133
    refine lv_tableIn (off := 129) (tgt := 147) hx hb dL_does_18 (by rw [c133]; decide) (by rw [c133]; decide) (by rw [c133]; rfl) (by decide) ?_
    refine lv_aload_n hx hb dL_does_147 rfl (lv_at hl 2 rfl) ?_
    refine lv_iload_n hx hb dL_does_148 rfl (lv_at hl 0 rfl) ?_
    refine lv_iload_n hx hb dL_does_149 rfl (lv_at hl 3 rfl) ?_
    refine lv_bipush (v := 10) hx hb dL_does_150 (by decide) ?_
    refine lv_ishr hx hb dL_does_152 ?_
    refine lv_topi (fun x134 ex134 => ?_)
    replace hf := nm_i hf ex134
    refine lv_sipush (v := 200) hx hb dL_does_153 (by decide) ?_
    obtain ⟨o135, ho135, hf⟩ := bd_i hf
    refine cl_i [] [0, 1, 2, 3, 4, 5, 6, 7, 8, 9, 10, 11, 12, 13, 14] [wT g, wS cT g 1 u_now, wV cT g 9 1 o92.2, wH cT g 25 u_history, wS cT g 27 u_history_r0, wS cT g 35 u_history_r1, wS cT g 43 u_history_r2, wS cT g 51 u_history_r3, wS cT g 59 u_history_r4, wS cT g 67 u_history_r5, wX cT g 75 u_text, wI cT g 77, wK cT g 94 u_kept, wS cT g 78 u_images_r0, wS cT g 86 u_images_r1] hP (va_D_adr hD rfl) hA hS (va_runS (As := [.int x134, .int ((200 : Int32))]) (rest := [.int o94, .ref (g 0)]) ⟨hx, hb, hml, hown, hts⟩ (c_L_low l D cT g  fu  x134 ((200 : Int32)) o135 ho135 _) (va_cwS 2 hts gL_does_L_low rfl rfl rfl (by decide +kernel) ⟨Nat.le_of_ble_eq_true rfl, Nat.le_of_ble_eq_true rfl⟩) ⟨PRE_blind, PRE_ok [] (by decide) hP (va_D_adr hD rfl) hA hS hK hN hZ⟩ rfl rfl hl.1 rfl (lv_room (Nat.le_of_ble_eq_true rfl)) dL_does_156 ⟨Nat.le_of_ble_eq_true rfl, Nat.le_of_ble_eq_true rfl⟩) rfl 15 rfl (by decide) (by decide) (fun H locs hP hS => ?_)
    refine lv_bipush (v := 100) hx hb dL_does_159 (by decide) ?_
    refine lv_isub hx hb dL_does_161 ?_
    refine lv_topi (fun x136 ex136 => ?_)
    replace hf := nm_i hf ex136
    obtain ⟨o137, ho137, hf⟩ := bd_i hf
    refine cl_i [0, 1, 3, 4, 5, 6, 7, 8, 9] [2, 10, 11, 12, 13, 14] [wT g, wS cT g 1 o137.2.1, wV cT g 9 1 o92.2, wH cT g 25 o137.2.2.1, wS cT g 27 o137.2.2.2.1, wS cT g 35 o137.2.2.2.2.1, wS cT g 43 o137.2.2.2.2.2.1, wS cT g 51 o137.2.2.2.2.2.2.1, wS cT g 59 o137.2.2.2.2.2.2.2.1, wS cT g 67 o137.2.2.2.2.2.2.2.2, wX cT g 75 u_text, wI cT g 77, wK cT g 94 u_kept, wS cT g 78 u_images_r0, wS cT g 86 u_images_r1] hP (va_D_adr hD rfl) hA hS (va_runV (As := [.int o94, .int x136]) (rest := []) ⟨hx, hb, hml, hown, hts⟩ (c_X4_setLevel l D cT g  fu u_now u_history u_history_r0 u_history_r1 u_history_r2 u_history_r3 u_history_r4 u_history_r5 o94 x136 o137 ho137 _) (cwV 2 hts gL_does_X4_setLevel rfl rfl rfl (by decide +kernel) ⟨Nat.le_of_ble_eq_true rfl, Nat.le_of_ble_eq_true rfl⟩) ⟨PRE_blind, va_recv hK hP (ci := 4) (q0 := 0) rfl rfl, PRE_ok [0, 1, 3, 4, 5, 6, 7, 8, 9] (by decide) hP (va_D_adr hD rfl) hA hS hK hN hZ⟩ rfl rfl hl.1 rfl (lv_room (Nat.le_of_ble_eq_true rfl)) dL_does_162 ⟨Nat.le_of_ble_eq_true rfl, Nat.le_of_ble_eq_true rfl⟩) rfl 15 rfl (by decide) (by decide) (fun H locs hP hS => ?_)
    refine lv_sipush (v := 20000) hx hb dL_does_165 (by decide) ?_
    refine lv_iadd hx hb dL_does_168 ?_
    refine lv_topi (fun x138 ex138 => ?_)
    replace hf := nm_i hf ex138
    obtain rfl := Option.some.inj hf
    subst hQ
    exact en_i hx hb hr hP hS hlocks dL_does_169
  replace hf := it_f hf c133
  by_cases c139 : x95 = (6 : Int32)
  · replace hf := it_t hf c139
    refine lv_tableIn (off := 152) (tgt := 170) hx hb dL_does_18 (by rw [c139]; decide) (by rw [c139]; decide) (by rw [c139]; rfl) (by decide) ?_
    refine lv_aload_n hx hb dL_does_170 rfl (lv_at hl 2 rfl) ?_
    refine lv_iload_n hx hb dL_does_171 rfl (lv_at hl 0 rfl) ?_
    refine lv_iload_n hx hb dL_does_172 rfl (lv_at hl 0 rfl) ?_
    refine lv_iload_n hx hb dL_does_173 rfl (lv_at hl 3 rfl) ?_
    refine lv_bipush (v := 10) hx hb dL_does_174 (by decide) ?_
    refine lv_ishr hx hb dL_does_176 ?_
    refine lv_topi (fun x140 ex140 => ?_)
    replace hf := nm_i hf ex140
    refine lv_iload_n hx hb dL_does_177 rfl (lv_at hl 1 rfl) ?_
    refine lv_iload_n hx hb dL_does_178 rfl (lv_at hl 0 rfl) ?_
    refine lv_isub hx hb dL_does_179 ?_
    refine lv_topi (fun x141 ex141 => ?_)
    replace hf := nm_i hf ex141
    obtain ⟨o142, ho142, hf⟩ := bd_i hf
    refine cl_i [] [0, 1, 2, 3, 4, 5, 6, 7, 8, 9, 10, 11, 12, 13, 14] [wT g, wS cT g 1 u_now, wV cT g 9 1 o92.2, wH cT g 25 u_history, wS cT g 27 u_history_r0, wS cT g 35 u_history_r1, wS cT g 43 u_history_r2, wS cT g 51 u_history_r3, wS cT g 59 u_history_r4, wS cT g 67 u_history_r5, wX cT g 75 u_text, wI cT g 77, wK cT g 94 u_kept, wS cT g 78 u_images_r0, wS cT g 86 u_images_r1] hP (va_D_adr hD rfl) hA hS (va_runS (As := [.int x140, .int x141]) (rest := [.int o94, .int o94, .ref (g 0)]) ⟨hx, hb, hml, hown, hts⟩ (c_L_low l D cT g  fu  x140 x141 o142 ho142 _) (va_cwS 2 hts gL_does_L_low rfl rfl rfl (by decide +kernel) ⟨Nat.le_of_ble_eq_true rfl, Nat.le_of_ble_eq_true rfl⟩) ⟨PRE_blind, PRE_ok [] (by decide) hP (va_D_adr hD rfl) hA hS hK hN hZ⟩ rfl rfl hl.1 rfl (lv_room (Nat.le_of_ble_eq_true rfl)) dL_does_180 ⟨Nat.le_of_ble_eq_true rfl, Nat.le_of_ble_eq_true rfl⟩) rfl 15 rfl (by decide) (by decide) (fun H locs hP hS => ?_)
    refine lv_iadd hx hb dL_does_183 ?_
    refine lv_topi (fun x143 ex143 => ?_)
    replace hf := nm_i hf ex143
    refine lv_iload_n hx hb dL_does_184 rfl (lv_at hl 3 rfl) ?_
    refine lv_bipush (v := 16) hx hb dL_does_185 (by decide) ?_
    refine lv_ishr hx hb dL_does_187 ?_
    refine lv_topi (fun x144 ex144 => ?_)
    replace hf := nm_i hf ex144
    refine lv_sipush (v := 400) hx hb dL_does_188 (by decide) ?_
    obtain ⟨o145, ho145, hf⟩ := bd_i hf
    refine cl_i [] [0, 1, 2, 3, 4, 5, 6, 7, 8, 9, 10, 11, 12, 13, 14] [wT g, wS cT g 1 u_now, wV cT g 9 1 o92.2, wH cT g 25 u_history, wS cT g 27 u_history_r0, wS cT g 35 u_history_r1, wS cT g 43 u_history_r2, wS cT g 51 u_history_r3, wS cT g 59 u_history_r4, wS cT g 67 u_history_r5, wX cT g 75 u_text, wI cT g 77, wK cT g 94 u_kept, wS cT g 78 u_images_r0, wS cT g 86 u_images_r1] hP (va_D_adr hD rfl) hA hS (va_runS (As := [.int x144, .int ((400 : Int32))]) (rest := [.int x143, .int o94, .ref (g 0)]) ⟨hx, hb, hml, hown, hts⟩ (c_L_low l D cT g  fu  x144 ((400 : Int32)) o145 ho145 _) (va_cwS 2 hts gL_does_L_low rfl rfl rfl (by decide +kernel) ⟨Nat.le_of_ble_eq_true rfl, Nat.le_of_ble_eq_true rfl⟩) ⟨PRE_blind, PRE_ok [] (by decide) hP (va_D_adr hD rfl) hA hS hK hN hZ⟩ rfl rfl hl.1 rfl (lv_room (Nat.le_of_ble_eq_true rfl)) dL_does_191 ⟨Nat.le_of_ble_eq_true rfl, Nat.le_of_ble_eq_true rfl⟩) rfl 15 rfl (by decide) (by decide) (fun H locs hP hS => ?_)
    refine lv_bipush (v := 100) hx hb dL_does_194 (by decide) ?_
    refine lv_isub hx hb dL_does_196 ?_
    refine lv_topi (fun x146 ex146 => ?_)
    replace hf := nm_i hf ex146
    obtain ⟨o147, ho147, hf⟩ := bd_i hf
    refine cl_i [0, 1, 3, 4, 5, 6, 7, 8, 9] [2, 10, 11, 12, 13, 14] [wT g, wS cT g 1 o147.2.1, wV cT g 9 1 o92.2, wH cT g 25 o147.2.2.1, wS cT g 27 o147.2.2.2.1, wS cT g 35 o147.2.2.2.2.1, wS cT g 43 o147.2.2.2.2.2.1, wS cT g 51 o147.2.2.2.2.2.2.1, wS cT g 59 o147.2.2.2.2.2.2.2.1, wS cT g 67 o147.2.2.2.2.2.2.2.2, wX cT g 75 u_text, wI cT g 77, wK cT g 94 u_kept, wS cT g 78 u_images_r0, wS cT g 86 u_images_r1] hP (va_D_adr hD rfl) hA hS (va_runV (As := [.int o94, .int x143, .int x146]) (rest := []) ⟨hx, hb, hml, hown, hts⟩ (c_X4_addJob l D cT g  fu u_now u_history u_history_r0 u_history_r1 u_history_r2 u_history_r3 u_history_r4 u_history_r5 o94 x143 x146 o147 ho147 _) (cwV 3 hts gL_does_X4_addJob rfl rfl rfl (by decide +kernel) ⟨Nat.le_of_ble_eq_true rfl, Nat.le_of_ble_eq_true rfl⟩) ⟨PRE_blind, va_recv hK hP (ci := 4) (q0 := 0) rfl rfl, PRE_ok [0, 1, 3, 4, 5, 6, 7, 8, 9] (by decide) hP (va_D_adr hD rfl) hA hS hK hN hZ⟩ rfl rfl hl.1 rfl (lv_room (Nat.le_of_ble_eq_true rfl)) dL_does_197 ⟨Nat.le_of_ble_eq_true rfl, Nat.le_of_ble_eq_true rfl⟩) rfl 15 rfl (by decide) (by decide) (fun H locs hP hS => ?_)
    obtain rfl := Option.some.inj hf
    subst hQ
    exact en_i hx hb hr hP hS hlocks dL_does_200
  replace hf := it_f hf c139
  by_cases c148 : x95 = (7 : Int32)
  · replace hf := it_t hf c148
    refine lv_tableIn (off := 152) (tgt := 170) hx hb dL_does_18 (by rw [c148]; decide) (by rw [c148]; decide) (by rw [c148]; rfl) (by decide) ?_
    refine lv_aload_n hx hb dL_does_170 rfl (lv_at hl 2 rfl) ?_
    refine lv_iload_n hx hb dL_does_171 rfl (lv_at hl 0 rfl) ?_
    refine lv_iload_n hx hb dL_does_172 rfl (lv_at hl 0 rfl) ?_
    refine lv_iload_n hx hb dL_does_173 rfl (lv_at hl 3 rfl) ?_
    refine lv_bipush (v := 10) hx hb dL_does_174 (by decide) ?_
    refine lv_ishr hx hb dL_does_176 ?_
    refine lv_topi (fun x149 ex149 => ?_)
    replace hf := nm_i hf ex149
    refine lv_iload_n hx hb dL_does_177 rfl (lv_at hl 1 rfl) ?_
    refine lv_iload_n hx hb dL_does_178 rfl (lv_at hl 0 rfl) ?_
    refine lv_isub hx hb dL_does_179 ?_
    refine lv_topi (fun x150 ex150 => ?_)
    replace hf := nm_i hf ex150
    obtain ⟨o151, ho151, hf⟩ := bd_i hf
    refine cl_i [] [0, 1, 2, 3, 4, 5, 6, 7, 8, 9, 10, 11, 12, 13, 14] [wT g, wS cT g 1 u_now, wV cT g 9 1 o92.2, wH cT g 25 u_history, wS cT g 27 u_history_r0, wS cT g 35 u_history_r1, wS cT g 43 u_history_r2, wS cT g 51 u_history_r3, wS cT g 59 u_history_r4, wS cT g 67 u_history_r5, wX cT g 75 u_text, wI cT g 77, wK cT g 94 u_kept, wS cT g 78 u_images_r0, wS cT g 86 u_images_r1] hP (va_D_adr hD rfl) hA hS (va_runS (As := [.int x149, .int x150]) (rest := [.int o94, .int o94, .ref (g 0)]) ⟨hx, hb, hml, hown, hts⟩ (c_L_low l D cT g  fu  x149 x150 o151 ho151 _) (va_cwS 2 hts gL_does_L_low rfl rfl rfl (by decide +kernel) ⟨Nat.le_of_ble_eq_true rfl, Nat.le_of_ble_eq_true rfl⟩) ⟨PRE_blind, PRE_ok [] (by decide) hP (va_D_adr hD rfl) hA hS hK hN hZ⟩ rfl rfl hl.1 rfl (lv_room (Nat.le_of_ble_eq_true rfl)) dL_does_180 ⟨Nat.le_of_ble_eq_true rfl, Nat.le_of_ble_eq_true rfl⟩) rfl 15 rfl (by decide) (by decide) (fun H locs hP hS => ?_)
    refine lv_iadd hx hb dL_does_183 ?_
    refine lv_topi (fun x152 ex152 => ?_)
    replace hf := nm_i hf ex152
    refine lv_iload_n hx hb dL_does_184 rfl (lv_at hl 3 rfl) ?_
    refine lv_bipush (v := 16) hx hb dL_does_185 (by decide) ?_
    refine lv_ishr hx hb dL_does_187 ?_
    refine lv_topi (fun x153 ex153 => ?_)
    replace hf := nm_i hf ex153
    refine lv_sipush (v := 400) hx hb dL_does_188 (by decide) ?_
    obtain ⟨o154, ho154, hf⟩ := bd_i hf
    refine cl_i [] [0, 1, 2, 3, 4, 5, 6, 7, 8, 9, 10, 11, 12, 13, 14] [wT g, wS cT g 1 u_now, wV cT g 9 1 o92.2, wH cT g 25 u_history, wS cT g 27 u_history_r0, wS cT g 35 u_history_r1, wS cT g 43 u_history_r2, wS cT g 51 u_history_r3, wS cT g 59 u_history_r4, wS cT g 67 u_history_r5, wX cT g 75 u_text, wI cT g 77, wK cT g 94 u_kept, wS cT g 78 u_images_r0, wS cT g 86 u_images_r1] hP (va_D_adr hD rfl) hA hS (va_runS (As := [.int x153, .int ((400 : Int32))]) (rest := [.int x152, .int o94, .ref (g 0)]) ⟨hx, hb, hml, hown, hts⟩ (c_L_low l D cT g  fu  x153 ((400 : Int32)) o154 ho154 _) (va_cwS 2 hts gL_does_L_low rfl rfl rfl (by decide +kernel) ⟨Nat.le_of_ble_eq_true rfl, Nat.le_of_ble_eq_true rfl⟩) ⟨PRE_blind, PRE_ok [] (by decide) hP (va_D_adr hD rfl) hA hS hK hN hZ⟩ rfl rfl hl.1 rfl (lv_room (Nat.le_of_ble_eq_true rfl)) dL_does_191 ⟨Nat.le_of_ble_eq_true rfl, Nat.le_of_ble_eq_true rfl⟩) rfl 15 rfl (by decide) (by decide) (fun H locs hP hS => ?_)
    refine lv_bipush (v := 100) hx hb dL_does_194 (by decide) ?_
    refine lv_isub hx hb dL_does_196 ?_
    refine lv_topi (fun x155 ex155 => ?_)
    replace hf := nm_i hf ex155
    obtain ⟨o156, ho156, hf⟩ := bd_i hf
    refine cl_i [0, 1, 3, 4, 5, 6, 7, 8, 9] [2, 10, 11, 12, 13, 14] [wT g, wS cT g 1 o156.2.1, wV cT g 9 1 o92.2, wH cT g 25 o156.2.2.1, wS cT g 27 o156.2.2.2.1, wS cT g 35 o156.2.2.2.2.1, wS cT g 43 o156.2.2.2.2.2.1, wS cT g 51 o156.2.2.2.2.2.2.1, wS cT g 59 o156.2.2.2.2.2.2.2.1, wS cT g 67 o156.2.2.2.2.2.2.2.2, wX cT g 75 u_text, wI cT g 77, wK cT g 94 u_kept, wS cT g 78 u_images_r0, wS cT g 86 u_images_r1] hP (va_D_adr hD rfl) hA hS (va_runV (As := [.int o94, .int x152, .int x155]) (rest := []) ⟨hx, hb, hml, hown, hts⟩ (c_X4_addJob l D cT g  fu u_now u_history u_history_r0 u_history_r1 u_history_r2 u_history_r3 u_history_r4 u_history_r5 o94 x152 x155 o156 ho156 _) (cwV 3 hts gL_does_X4_addJob rfl rfl rfl (by decide +kernel) ⟨Nat.le_of_ble_eq_true rfl, Nat.le_of_ble_eq_true rfl⟩) ⟨PRE_blind, va_recv hK hP (ci := 4) (q0 := 0) rfl rfl, PRE_ok [0, 1, 3, 4, 5, 6, 7, 8, 9] (by decide) hP (va_D_adr hD rfl) hA hS hK hN hZ⟩ rfl rfl hl.1 rfl (lv_room (Nat.le_of_ble_eq_true rfl)) dL_does_197 ⟨Nat.le_of_ble_eq_true rfl, Nat.le_of_ble_eq_true rfl⟩) rfl 15 rfl (by decide) (by decide) (fun H locs hP hS => ?_)
    obtain rfl := Option.some.inj hf
    subst hQ
    exact en_i hx hb hr hP hS hlocks dL_does_200
  replace hf := it_f hf c148
  by_cases c157 : x95 = (8 : Int32)
  · replace hf := it_t hf c157
    refine lv_tableIn (off := 183) (tgt := 201) hx hb dL_does_18 (by rw [c157]; decide) (by rw [c157]; decide) (by rw [c157]; rfl) (by decide) ?_
    refine lv_aload_n hx hb dL_does_201 rfl (lv_at hl 2 rfl) ?_
    refine lv_iload_n hx hb dL_does_202 rfl (lv_at hl 0 rfl) ?_
    obtain ⟨o158, ho158, hf⟩ := bd_i hf
    refine cl_i [0, 1, 3, 4, 5, 6, 7, 8, 9] [2, 10, 11, 12, 13, 14] [wT g, wS cT g 1 o158.2.1, wV cT g 9 1 o92.2, wH cT g 25 o158.2.2.1, wS cT g 27 o158.2.2.2.1, wS cT g 35 o158.2.2.2.2.1, wS cT g 43 o158.2.2.2.2.2.1, wS cT g 51 o158.2.2.2.2.2.2.1, wS cT g 59 o158.2.2.2.2.2.2.2.1, wS cT g 67 o158.2.2.2.2.2.2.2.2, wX cT g 75 u_text, wI cT g 77, wK cT g 94 u_kept, wS cT g 78 u_images_r0, wS cT g 86 u_images_r1] hP (va_D_adr hD rfl) hA hS (va_runV (As := [.int o94]) (rest := []) ⟨hx, hb, hml, hown, hts⟩ (c_X4_cancelJobs l D cT g  fu u_now u_history u_history_r0 u_history_r1 u_history_r2 u_history_r3 u_history_r4 u_history_r5 o94 o158 ho158 _) (cwV 1 hts gL_does_X4_cancelJobs rfl rfl rfl (by decide +kernel) ⟨Nat.le_of_ble_eq_true rfl, Nat.le_of_ble_eq_true rfl⟩) ⟨PRE_blind, va_recv hK hP (ci := 4) (q0 := 0) rfl rfl, PRE_ok [0, 1, 3, 4, 5, 6, 7, 8, 9] (by decide) hP (va_D_adr hD rfl) hA hS hK hN hZ⟩ rfl rfl hl.1 rfl (lv_room (Nat.le_of_ble_eq_true rfl)) dL_does_203 ⟨Nat.le_of_ble_eq_true rfl, Nat.le_of_ble_eq_true rfl⟩) rfl 15 rfl (by decide) (by decide) (fun H locs hP hS => ?_)
    obtain rfl := Option.some.inj hf
    subst hQ
    exact en_i hx hb hr hP hS hlocks dL_does_206
  replace hf := it_f hf c157
  by_cases c159 : x95 = (9 : Int32)
  · replace hf := it_t hf c159
    refine lv_tableIn (off := 189) (tgt := 207) hx hb dL_does_18 (by rw [c159]; decide) (by rw [c159]; decide) (by rw [c159]; rfl) (by decide) ?_
    refine lv_aload_n hx hb dL_does_207 rfl (lv_at hl 2 rfl) ?_
    refine lv_iconst (v := 1) hx hb dL_does_208 (by decide) ?_
    refine lv_iload_n hx hb dL_does_209 rfl (lv_at hl 3 rfl) ?_
    refine lv_iconst (v := 4) hx hb dL_does_210 (by decide) ?_
    refine lv_ishr hx hb dL_does_211 ?_
    refine lv_topi (fun x160 ex160 => ?_)
    replace hf := nm_i hf ex160
    refine lv_sipush (v := 200) hx hb dL_does_212 (by decide) ?_
    obtain ⟨o161, ho161, hf⟩ := bd_i hf
    refine cl_i [] [0, 1, 2, 3, 4, 5, 6, 7, 8, 9, 10, 11, 12, 13, 14] [wT g, wS cT g 1 u_now, wV cT g 9 1 o92.2, wH cT g 25 u_history, wS cT g 27 u_history_r0, wS cT g 35 u_history_r1, wS cT g 43 u_history_r2, wS cT g 51 u_history_r3, wS cT g 59 u_history_r4, wS cT g 67 u_history_r5, wX cT g 75 u_text, wI cT g 77, wK cT g 94 u_kept, wS cT g 78 u_images_r0, wS cT g 86 u_images_r1] hP (va_D_adr hD rfl) hA hS (va_runS (As := [.int x160, .int ((200 : Int32))]) (rest := [.int ((1 : Int32)), .ref (g 0)]) ⟨hx, hb, hml, hown, hts⟩ (c_L_low l D cT g  fu  x160 ((200 : Int32)) o161 ho161 _) (va_cwS 2 hts gL_does_L_low rfl rfl rfl (by decide +kernel) ⟨Nat.le_of_ble_eq_true rfl, Nat.le_of_ble_eq_true rfl⟩) ⟨PRE_blind, PRE_ok [] (by decide) hP (va_D_adr hD rfl) hA hS hK hN hZ⟩ rfl rfl hl.1 rfl (lv_room (Nat.le_of_ble_eq_true rfl)) dL_does_215 ⟨Nat.le_of_ble_eq_true rfl, Nat.le_of_ble_eq_true rfl⟩) rfl 15 rfl (by decide) (by decide) (fun H locs hP hS => ?_)
    refine lv_iadd hx hb dL_does_218 ?_
    refine lv_topi (fun x162 ex162 => ?_)
    replace hf := nm_i hf ex162
    obtain ⟨o163, ho163, hf⟩ := bd_i hf
    refine cl_i [0, 1, 3, 4, 5, 6, 7, 8, 9] [2, 10, 11, 12, 13, 14] [wT g, wS cT g 1 o163.2.1, wV cT g 9 1 o92.2, wH cT g 25 o163.2.2.1, wS cT g 27 o163.2.2.2.1, wS cT g 35 o163.2.2.2.2.1, wS cT g 43 o163.2.2.2.2.2.1, wS cT g 51 o163.2.2.2.2.2.2.1, wS cT g 59 o163.2.2.2.2.2.2.2.1, wS cT g 67 o163.2.2.2.2.2.2.2.2, wX cT g 75 u_text, wI cT g 77, wK cT g 94 u_kept, wS cT g 78 u_images_r0, wS cT g 86 u_images_r1] hP (va_D_adr hD rfl) hA hS (va_runV (As := [.int x162]) (rest := []) ⟨hx, hb, hml, hown, hts⟩ (c_X4_work l D cT g  fu u_now u_history u_history_r0 u_history_r1 u_history_r2 u_history_r3 u_history_r4 u_history_r5 x162 o163 ho163 _) (cwV 1 hts gL_does_X4_work rfl rfl rfl (by decide +kernel) ⟨Nat.le_of_ble_eq_true rfl, Nat.le_of_ble_eq_true rfl⟩) ⟨PRE_blind, va_recv hK hP (ci := 4) (q0 := 0) rfl rfl, PRE_ok [0, 1, 3, 4, 5, 6, 7, 8, 9] (by decide) hP (va_D_adr hD rfl) hA hS hK hN hZ⟩ rfl rfl hl.1 rfl (lv_room (Nat.le_of_ble_eq_true rfl)) dL_does_219 ⟨Nat.le_of_ble_eq_true rfl, Nat.le_of_ble_eq_true rfl⟩) rfl 15 rfl (by decide) (by decide) (fun H locs hP hS => ?_)
    obtain rfl := Option.some.inj hf
    subst hQ
    exact en_i hx hb hr hP hS hlocks dL_does_222
  replace hf := it_f hf c159
  by_cases c164 : x95 = (10 : Int32)
  · replace hf := it_t hf c164
    refine lv_tableIn (off := 189) (tgt := 207) hx hb dL_does_18 (by rw [c164]; decide) (by rw [c164]; decide) (by rw [c164]; rfl) (by decide) ?_
    refine lv_aload_n hx hb dL_does_207 rfl (lv_at hl 2 rfl) ?_
    refine lv_iconst (v := 1) hx hb dL_does_208 (by decide) ?_
    refine lv_iload_n hx hb dL_does_209 rfl (lv_at hl 3 rfl) ?_
    refine lv_iconst (v := 4) hx hb dL_does_210 (by decide) ?_
    refine lv_ishr hx hb dL_does_211 ?_
    refine lv_topi (fun x165 ex165 => ?_)
    replace hf := nm_i hf ex165
    refine lv_sipush (v := 200) hx hb dL_does_212 (by decide) ?_
    obtain ⟨o166, ho166, hf⟩ := bd_i hf
    refine cl_i [] [0, 1, 2, 3, 4, 5, 6, 7, 8, 9, 10, 11, 12, 13, 14] [wT g, wS cT g 1 u_now, wV cT g 9 1 o92.2, wH cT g 25 u_history, wS cT g 27 u_history_r0, wS cT g 35 u_history_r1, wS cT g 43 u_history_r2, wS cT g 51 u_history_r3, wS cT g 59 u_history_r4, wS cT g 67 u_history_r5, wX cT g 75 u_text, wI cT g 77, wK cT g 94 u_kept, wS cT g 78 u_images_r0, wS cT g 86 u_images_r1] hP (va_D_adr hD rfl) hA hS (va_runS (As := [.int x165, .int ((200 : Int32))]) (rest := [.int ((1 : Int32)), .ref (g 0)]) ⟨hx, hb, hml, hown, hts⟩ (c_L_low l D cT g  fu  x165 ((200 : Int32)) o166 ho166 _) (va_cwS 2 hts gL_does_L_low rfl rfl rfl (by decide +kernel) ⟨Nat.le_of_ble_eq_true rfl, Nat.le_of_ble_eq_true rfl⟩) ⟨PRE_blind, PRE_ok [] (by decide) hP (va_D_adr hD rfl) hA hS hK hN hZ⟩ rfl rfl hl.1 rfl (lv_room (Nat.le_of_ble_eq_true rfl)) dL_does_215 ⟨Nat.le_of_ble_eq_true rfl, Nat.le_of_ble_eq_true rfl⟩) rfl 15 rfl (by decide) (by decide) (fun H locs hP hS => ?_)
    refine lv_iadd hx hb dL_does_218 ?_
    refine lv_topi (fun x167 ex167 => ?_)
    replace hf := nm_i hf ex167
    obtain ⟨o168, ho168, hf⟩ := bd_i hf
    refine cl_i [0, 1, 3, 4, 5, 6, 7, 8, 9] [2, 10, 11, 12, 13, 14] [wT g, wS cT g 1 o168.2.1, wV cT g 9 1 o92.2, wH cT g 25 o168.2.2.1, wS cT g 27 o168.2.2.2.1, wS cT g 35 o168.2.2.2.2.1, wS cT g 43 o168.2.2.2.2.2.1, wS cT g 51 o168.2.2.2.2.2.2.1, wS cT g 59 o168.2.2.2.2.2.2.2.1, wS cT g 67 o168.2.2.2.2.2.2.2.2, wX cT g 75 u_text, wI cT g 77, wK cT g 94 u_kept, wS cT g 78 u_images_r0, wS cT g 86 u_images_r1] hP (va_D_adr hD rfl) hA hS (va_runV (As := [.int x167]) (rest := []) ⟨hx, hb, hml, hown, hts⟩ (c_X4_work l D cT g  fu u_now u_history u_history_r0 u_history_r1 u_history_r2 u_history_r3 u_history_r4 u_history_r5 x167 o168 ho168 _) (cwV 1 hts gL_does_X4_work rfl rfl rfl (by decide +kernel) ⟨Nat.le_of_ble_eq_true rfl, Nat.le_of_ble_eq_true rfl⟩) ⟨PRE_blind, va_recv hK hP (ci := 4) (q0 := 0) rfl rfl, PRE_ok [0, 1, 3, 4, 5, 6, 7, 8, 9] (by decide) hP (va_D_adr hD rfl) hA hS hK hN hZ⟩ rfl rfl hl.1 rfl (lv_room (Nat.le_of_ble_eq_true rfl)) dL_does_219 ⟨Nat.le_of_ble_eq_true rfl, Nat.le_of_ble_eq_true rfl⟩) rfl 15 rfl (by decide) (by decide) (fun H locs hP hS => ?_)
    obtain rfl := Option.some.inj hf
    subst hQ
    exact en_i hx hb hr hP hS hlocks dL_does_222
  replace hf := it_f hf c164
  by_cases c169 : x95 = (11 : Int32)
  · replace hf := it_t hf c169
    refine lv_tableIn (off := 205) (tgt := 223) hx hb dL_does_18 (by rw [c169]; decide) (by rw [c169]; decide) (by rw [c169]; rfl) (by decide) ?_
    refine lv_aload_n hx hb dL_does_223 rfl (lv_at hl 2 rfl) ?_
    refine lv_iload_n hx hb dL_does_224 rfl (lv_at hl 3 rfl) ?_
    refine lv_iconst (v := 4) hx hb dL_does_225 (by decide) ?_
    refine lv_ishr hx hb dL_does_226 ?_
    refine lv_topi (fun x170 ex170 => ?_)
    replace hf := nm_i hf ex170
    refine lv_iconst (v := 1) hx hb dL_does_227 (by decide) ?_
    refine lv_iand hx hb dL_does_228 ?_
    refine lv_topi (fun x171 ex171 => ?_)
    replace hf := nm_i hf ex171
    obtain ⟨o172, ho172, hf⟩ := bd_i hf
    refine cl_i [0, 1, 3, 4, 5, 6, 7, 8, 9, 11, 13, 14, 12] [2, 10] [wT g, wS cT g 1 o172.2.1, wV cT g 9 1 o92.2, wH cT g 25 o172.2.2.1, wS cT g 27 o172.2.2.2.1, wS cT g 35 o172.2.2.2.2.1, wS cT g 43 o172.2.2.2.2.2.1, wS cT g 51 o172.2.2.2.2.2.2.1, wS cT g 59 o172.2.2.2.2.2.2.2.1, wS cT g 67 o172.2.2.2.2.2.2.2.2, wX cT g 75 u_text, wI cT g 77, wK cT g 94 u_kept, wS cT g 78 u_images_r0, wS cT g 86 u_images_r1] hP (va_D_adr hD rfl) hA hS (va_runV (As := [.int x171]) (rest := []) ⟨hx, hb, hml, hown, hts⟩ (c_X4_back l D cT g  fu u_now u_history u_history_r0 u_history_r1 u_history_r2 u_history_r3 u_history_r4 u_history_r5 u_images_r0 u_images_r1 u_kept x171 o172 ho172 _) (cwV 1 hts gL_does_X4_back rfl rfl rfl (by decide +kernel) ⟨Nat.le_of_ble_eq_true rfl, Nat.le_of_ble_eq_true rfl⟩) ⟨PRE_blind, va_recv hK hP (ci := 4) (q0 := 0) rfl rfl, PRE_ok [0, 1, 3, 4, 5, 6, 7, 8, 9, 11, 13, 14, 12] (by decide) hP (va_D_adr hD rfl) hA hS hK hN hZ⟩ rfl rfl hl.1 rfl (lv_room (Nat.le_of_ble_eq_true rfl)) dL_does_229 ⟨Nat.le_of_ble_eq_true rfl, Nat.le_of_ble_eq_true rfl⟩) rfl 15 rfl (by decide) (by decide) (fun H locs hP hS => ?_)
    obtain rfl := Option.some.inj hf
    subst hQ
    exact en_i hx hb hr hP hS hlocks dL_does_232
  replace hf := it_f hf c169
  refine lv_tableOut (tgt := 233) hx hb dL_does_18 (sw_out (fun k h1 h2 => by
    rcases (show k = 0 ∨ k = 1 ∨ k = 2 ∨ k = 3 ∨ k = 4 ∨ k = 5 ∨ k = 6 ∨ k = 7 ∨ k = 8 ∨ k = 9 ∨ k = 10 ∨ k = 11 by omega) with rfl | rfl | rfl | rfl | rfl | rfl | rfl | rfl | rfl | rfl | rfl | rfl
    · exact c96
    · exact c108
    · exact c115
    · exact c121
    · exact c127
    · exact c133
    · exact c139
    · exact c148
    · exact c157
    · exact c159
    · exact c164
    · exact c169)) (by decide) ?_
  refine lv_aload_n hx hb dL_does_233 rfl (lv_at hl 2 rfl) ?_
  refine lv_iconst (v := 1) hx hb dL_does_234 (by decide) ?_
  refine lv_iload_n hx hb dL_does_235 rfl (lv_at hl 3 rfl) ?_
  refine lv_iconst (v := 4) hx hb dL_does_236 (by decide) ?_
  refine lv_ishr hx hb dL_does_237 ?_
  refine lv_topi (fun x173 ex173 => ?_)
  replace hf := nm_i hf ex173
  refine lv_sipush (v := 200) hx hb dL_does_238 (by decide) ?_
  obtain ⟨o174, ho174, hf⟩ := bd_i hf
  refine cl_i [] [0, 1, 2, 3, 4, 5, 6, 7, 8, 9, 10, 11, 12, 13, 14] [wT g, wS cT g 1 u_now, wV cT g 9 1 o92.2, wH cT g 25 u_history, wS cT g 27 u_history_r0, wS cT g 35 u_history_r1, wS cT g 43 u_history_r2, wS cT g 51 u_history_r3, wS cT g 59 u_history_r4, wS cT g 67 u_history_r5, wX cT g 75 u_text, wI cT g 77, wK cT g 94 u_kept, wS cT g 78 u_images_r0, wS cT g 86 u_images_r1] hP (va_D_adr hD rfl) hA hS (va_runS (As := [.int x173, .int ((200 : Int32))]) (rest := [.int ((1 : Int32)), .ref (g 0)]) ⟨hx, hb, hml, hown, hts⟩ (c_L_low l D cT g  fu  x173 ((200 : Int32)) o174 ho174 _) (va_cwS 2 hts gL_does_L_low rfl rfl rfl (by decide +kernel) ⟨Nat.le_of_ble_eq_true rfl, Nat.le_of_ble_eq_true rfl⟩) ⟨PRE_blind, PRE_ok [] (by decide) hP (va_D_adr hD rfl) hA hS hK hN hZ⟩ rfl rfl hl.1 rfl (lv_room (Nat.le_of_ble_eq_true rfl)) dL_does_241 ⟨Nat.le_of_ble_eq_true rfl, Nat.le_of_ble_eq_true rfl⟩) rfl 15 rfl (by decide) (by decide) (fun H locs hP hS => ?_)
  refine lv_iadd hx hb dL_does_244 ?_
  refine lv_topi (fun x175 ex175 => ?_)
  replace hf := nm_i hf ex175
  refine lv_iconst (v := 1) hx hb dL_does_245 (by decide) ?_
  refine lv_iload_n hx hb dL_does_246 rfl (lv_at hl 3 rfl) ?_
  refine lv_bipush (v := 12) hx hb dL_does_247 (by decide) ?_
  refine lv_ishr hx hb dL_does_249 ?_
  refine lv_topi (fun x176 ex176 => ?_)
  replace hf := nm_i hf ex176
  refine lv_bipush (v := 30) hx hb dL_does_250 (by decide) ?_
  obtain ⟨o177, ho177, hf⟩ := bd_i hf
  refine cl_i [] [0, 1, 2, 3, 4, 5, 6, 7, 8, 9, 10, 11, 12, 13, 14] [wT g, wS cT g 1 u_now, wV cT g 9 1 o92.2, wH cT g 25 u_history, wS cT g 27 u_history_r0, wS cT g 35 u_history_r1, wS cT g 43 u_history_r2, wS cT g 51 u_history_r3, wS cT g 59 u_history_r4, wS cT g 67 u_history_r5, wX cT g 75 u_text, wI cT g 77, wK cT g 94 u_kept, wS cT g 78 u_images_r0, wS cT g 86 u_images_r1] hP (va_D_adr hD rfl) hA hS (va_runS (As := [.int x176, .int ((30 : Int32))]) (rest := [.int ((1 : Int32)), .int x175, .ref (g 0)]) ⟨hx, hb, hml, hown, hts⟩ (c_L_low l D cT g  fu  x176 ((30 : Int32)) o177 ho177 _) (va_cwS 2 hts gL_does_L_low rfl rfl rfl (by decide +kernel) ⟨Nat.le_of_ble_eq_true rfl, Nat.le_of_ble_eq_true rfl⟩) ⟨PRE_blind, PRE_ok [] (by decide) hP (va_D_adr hD rfl) hA hS hK hN hZ⟩ rfl rfl hl.1 rfl (lv_room (Nat.le_of_ble_eq_true rfl)) dL_does_252 ⟨Nat.le_of_ble_eq_true rfl, Nat.le_of_ble_eq_true rfl⟩) rfl 15 rfl (by decide) (by decide) (fun H locs hP hS => ?_)
  refine lv_iadd hx hb dL_does_255 ?_
  refine lv_topi (fun x178 ex178 => ?_)
  replace hf := nm_i hf ex178
  refine lv_iconst (v := 1) hx hb dL_does_256 (by decide) ?_
  refine lv_iload_n hx hb dL_does_257 rfl (lv_at hl 3 rfl) ?_
  refine lv_bipush (v := 17) hx hb dL_does_258 (by decide) ?_
  refine lv_ishr hx hb dL_does_260 ?_
  refine lv_topi (fun x179 ex179 => ?_)
  replace hf := nm_i hf ex179
  refine lv_iconst (v := 5) hx hb dL_does_261 (by decide) ?_
  obtain ⟨o180, ho180, hf⟩ := bd_i hf
  refine cl_i [] [0, 1, 2, 3, 4, 5, 6, 7, 8, 9, 10, 11, 12, 13, 14] [wT g, wS cT g 1 u_now, wV cT g 9 1 o92.2, wH cT g 25 u_history, wS cT g 27 u_history_r0, wS cT g 35 u_history_r1, wS cT g 43 u_history_r2, wS cT g 51 u_history_r3, wS cT g 59 u_history_r4, wS cT g 67 u_history_r5, wX cT g 75 u_text, wI cT g 77, wK cT g 94 u_kept, wS cT g 78 u_images_r0, wS cT g 86 u_images_r1] hP (va_D_adr hD rfl) hA hS (va_runS (As := [.int x179, .int ((5 : Int32))]) (rest := [.int ((1 : Int32)), .int x178, .int x175, .ref (g 0)]) ⟨hx, hb, hml, hown, hts⟩ (c_L_low l D cT g  fu  x179 ((5 : Int32)) o180 ho180 _) (va_cwS 2 hts gL_does_L_low rfl rfl rfl (by decide +kernel) ⟨Nat.le_of_ble_eq_true rfl, Nat.le_of_ble_eq_true rfl⟩) ⟨PRE_blind, PRE_ok [] (by decide) hP (va_D_adr hD rfl) hA hS hK hN hZ⟩ rfl rfl hl.1 rfl (lv_room (Nat.le_of_ble_eq_true rfl)) dL_does_262 ⟨Nat.le_of_ble_eq_true rfl, Nat.le_of_ble_eq_true rfl⟩) rfl 15 rfl (by decide) (by decide) (fun H locs hP hS => ?_)
  refine lv_iadd hx hb dL_does_265 ?_
  refine lv_topi (fun x181 ex181 => ?_)
  replace hf := nm_i hf ex181
  obtain ⟨o182, ho182, hf⟩ := bd_i hf
  refine cl_i [0, 1, 2, 3, 4, 5, 6, 7, 8, 9] [10, 11, 12, 13, 14] [wT g, wS cT g 1 o182.2.1, wV cT g 9 1 o182.2.2.1, wH cT g 25 o182.2.2.2.1, wS cT g 27 o182.2.2.2.2.1, wS cT g 35 o182.2.2.2.2.2.1, wS cT g 43 o182.2.2.2.2.2.2.1, wS cT g 51 o182.2.2.2.2.2.2.2.1, wS cT g 59 o182.2.2.2.2.2.2.2.2.1, wS cT g 67 o182.2.2.2.2.2.2.2.2.2, wX cT g 75 u_text, wI cT g 77, wK cT g 94 u_kept, wS cT g 78 u_images_r0, wS cT g 86 u_images_r1] hP (va_D_adr hD rfl) hA hS (va_runV (As := [.int x175, .int x178, .int x181]) (rest := []) ⟨hx, hb, hml, hown, hts⟩ (c_X4_trains l D cT g  fu u_now o92.2 u_history u_history_r0 u_history_r1 u_history_r2 u_history_r3 u_history_r4 u_history_r5 x175 x178 x181 o182 ho182 _) (cwV 3 hts gL_does_X4_trains rfl rfl rfl (by decide +kernel) ⟨Nat.le_of_ble_eq_true rfl, Nat.le_of_ble_eq_true rfl⟩) ⟨PRE_blind, va_recv hK hP (ci := 4) (q0 := 0) rfl rfl, PRE_ok [0, 1, 2, 3, 4, 5, 6, 7, 8, 9] (by decide) hP (va_D_adr hD rfl) hA hS hK hN hZ⟩ rfl rfl hl.1 rfl (lv_room (Nat.le_of_ble_eq_true rfl)) dL_does_266 ⟨Nat.le_of_ble_eq_true rfl, Nat.le_of_ble_eq_true rfl⟩) rfl 15 rfl (by decide) (by decide) (fun H locs hP hS => ?_)
  obtain rfl := Option.some.inj hf
  subst hQ
  exact en_i hx hb hr hP hS hlocks dL_does_269
