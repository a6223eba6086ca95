def f_L_cell (L : Nat) (xs : Nat → Int32) (p1 : Int32) : Option Int32 :=
nm (nI L) fun (x9 : Int32) =>
if x9 ≤ p1 then (
nm (p1 + (3 : Int32)) fun (x11 : Int32) =>
nm ((7919 : Int32) * x11) fun (x12 : Int32) =>
nm (p1 + (11 : Int32)) fun (x13 : Int32) =>
nm (x12 * x13) fun (x14 : Int32) =>
some (x14)
)
else (
ix p1 L <|
nm (xs p1.toNatClampNeg) fun (x16 : Int32) =>
some (x16)
)

abbrev rm_L_cell : Room := { frames := 0, cells := 0, slots := 0, locals := 0 }
set_option maxHeartbeats 4000000 in
set_option maxRecDepth 100000 in
theorem c_L_cell (l : Launch) (D : va_G) (cT : Nat → ClassId) (b L : Nat) (xs : Nat → Int32) (p1 : Int32) (o : Int32) (hf : f_L_cell L xs p1 = some o) (sz : Nat) : Met l yL_cell wsL_cell rm_L_cell (va_Pc [.ref b, .int p1] (PREX D cT sz b L xs)) (QI D o [] (va_A [] sz)) 0 0 (va_A [] sz) := by
  refine Met.ofW (cc := cL_cell) (maxL := 2) (ret := (some .int)) (by decide) rfl ?_
  intro p e s m args below meth c s₁ B0 hml hv
  obtain ⟨hav, ⟨hsz, hP, hK, hD, hN, hZ⟩, hX, hbl⟩ := hv
  have hx := B0.exec
  have hb := B0.bytes
  have hr := B0.returns
  have hts := atoms_spec (ws := wsL_cell) B0.pre
  have hown : s.vm.findClass RL = some m.cls := findClass_of_methodNamed B0.named
  have hlocks := B0.notSynchronized
  subst hsz
  have hD := hD.self (sz := s.heap.size)
  have hbA : ¬ va_A [] s.heap.size b := fun h => by rcases va_A_mem.mp h with h | h; exact absurd h List.not_mem_nil; omega
  have hA : ∀ q : Nat, s.heap.size ≤ q → va_A [] s.heap.size q := fun q h => Or.inr h
  generalize va_A [] s.heap.size = A at hD hZ hA hbA ⊢
  have hS : va_S A s.heap s.heap [] := va_S.rf
  have hl := lv_entry ([.ref b, .int p1]) (n := 2) (Nat.le_of_ble_eq_true rfl)
  rw [hav]
  rw [lg_entry_eq]
  generalize (lg_sl ([.ref b, .int p1]) ++ List.replicate (2 - (lg_sl ([.ref b, .int p1])).length) Slot.unset).toArray = ls at hl ⊢
  have hl : lv_has ls 2 [(0, .ref b), (1, .int p1)] := hl
  rw [← hav]
  generalize hQ : MQ below _ _ _ _ _ _ = Q
  show W p l e rm_L_cell s m args below meth c s.heap [] 0 0 Q (F0 m 0 ls [])
  unfold f_L_cell at hf
  refine lv_iload_n hx hb dL_cell_0 rfl (lv_at hl 1 rfl) ?_
  refine lv_aload_n hx hb dL_cell_1 rfl (lv_at hl 0 rfl) ?_
  refine va_slen hx hb hX hbl hbA hS dL_cell_2 ?_
  refine lv_topi (fun x9 ex9 => ?_)
  replace hf := nm_i hf ex9
  refine lv_icmp_ge (tgt := 12) hx hb dL_cell_3 (by decide) (fun c10 => ?_) (fun c10 => ?_)
  · replace hf := it_t hf c10
    refine lv_sipush (v := 7919) hx hb dL_cell_12 (by decide) ?_
    refine lv_iload_n hx hb dL_cell_15 rfl (lv_at hl 1 rfl) ?_
    refine lv_iconst (v := 3) hx hb dL_cell_16 (by decide) ?_
    refine lv_iadd hx hb dL_cell_17 ?_
    refine lv_topi (fun x11 ex11 => ?_)
    replace hf := nm_i hf ex11
    refine lv_imul hx hb dL_cell_18 ?_
    refine lv_topi (fun x12 ex12 => ?_)
    replace hf := nm_i hf ex12
    refine lv_iload_n hx hb dL_cell_19 rfl (lv_at hl 1 rfl) ?_
    refine lv_bipush (v := 11) hx hb dL_cell_20 (by decide) ?_
    refine lv_iadd hx hb dL_cell_22 ?_
    refine lv_topi (fun x13 ex13 => ?_)
    replace hf := nm_i hf ex13
    refine lv_imul hx hb dL_cell_23 ?_
    refine lv_topi (fun x14 ex14 => ?_)
    replace hf := nm_i hf ex14
    obtain rfl := Option.some.inj hf
    subst hQ
    exact en_i hx hb hr hP hS hlocks dL_cell_24
  · replace hf := it_f hf c10
    refine lv_aload_n hx hb dL_cell_6 rfl (lv_at hl 0 rfl) ?_
    refine lv_iload_n hx hb dL_cell_7 rfl (lv_at hl 1 rfl) ?_
    obtain ⟨hi15, hf⟩ := ix_i hf
    refine va_sld hx hb hX hbl hbA hS hi15 dL_cell_8 ?_
    refine lv_topi (fun x16 ex16 => ?_)
    replace hf := nm_i hf ex16
    refine lv_goto (tgt := 24) hx hb dL_cell_9 (by decide) ?_
    obtain rfl := Option.some.inj hf
    subst hQ
    exact en_i hx hb hr hP hS hlocks dL_cell_24
def f_L_low (fu : Nat)  (p0 : Int32) (p1 : Int32) : Option (Int32) :=
nm (p0 &&& (2147483647 : Int32)) fun (x4 : Int32) =>
rq (decide (¬ p1 = 0)) <|
nm (x4 - x4 / p1 * p1) fun (x6 : Int32) =>
some (x6)

abbrev rm_L_low : Room := { frames := 0, cells := 0, slots := 0, locals := 0 }
set_option maxHeartbeats 4000000 in
set_option maxRecDepth 100000 in
theorem c_L_low (l : Launch) (D : va_G) (cT : Nat → ClassId) (g : Nat → Nat) (fu : Nat)  (p0 : Int32) (p1 : Int32) (o : Int32) (hf : f_L_low fu  p0 p1 = some o) (sz : Nat) : Met l yL_low wsL_low rm_L_low (va_Pc [.int p0, .int p1] (PRE D cT sz (List.flatten []))) (QI D o (List.flatten []) (va_A (List.flatten []) sz)) 0 0 (va_A (List.flatten []) sz) := by
  refine Met.ofW (cc := cL_low) (maxL := 2) (ret := (some .int)) (by decide) rfl ?_
  intro p e s m args below meth c s₁ B0 hml hv
  obtain ⟨hav, hsz, hP, hK, hD, hN, hZ⟩ := hv
  have hx := B0.exec
  have hb := B0.bytes
  have hr := B0.returns
  have hts := atoms_spec (ws := wsL_low) B0.pre
  have hown : s.vm.findClass RL = some m.cls := findClass_of_methodNamed B0.named
  have hlocks := B0.notSynchronized
  subst hsz
  have hD := hD.self (sz := s.heap.size)
  have hA : ∀ q : Nat, s.heap.size ≤ q → va_A (List.flatten []) s.heap.size q := fun q h => Or.inr h
  generalize va_A (List.flatten []) s.heap.size = A at hD hZ hA ⊢
  have hS : va_S A s.heap s.heap [] := va_S.rf
  have hl := lv_entry ([.int p0, .int p1]) (n := 2) (Nat.le_of_ble_eq_true rfl)
  rw [hav]
  rw [lg_entry_eq]
  generalize (lg_sl ([.int p0, .int p1]) ++ List.replicate (2 - (lg_sl ([.int p0, .int p1])).length) Slot.unset).toArray = ls at hl ⊢
  have hl : lv_has ls 2 [(0, .int p0), (1, .int p1)] := hl
  rw [← hav]
  generalize hQ : MQ below _ _ _ _ _ _ = Q
  show W p l e rm_L_low s m args below meth c s.heap [] 0 0 Q (F0 m 0 ls [])
  unfold f_L_low at hf
  refine lv_iload_n hx hb dL_low_0 rfl (lv_at hl 0 rfl) ?_
  refine lv_ldc (v := 2147483647) hx hb hown (hts (.constant RL 7 (2147483647)) (List.mem_of_getElem? (i := 1) rfl)) dL_low_1 ?_
  refine lv_iand hx hb dL_low_3 ?_
  refine lv_topi (fun x4 ex4 => ?_)
  replace hf := nm_i hf ex4
  refine lv_iload_n hx hb dL_low_4 rfl (lv_at hl 1 rfl) ?_
  obtain ⟨hq5, hf⟩ := rq_i hf
  refine lv_irem hx hb dL_low_5 (of_decide_eq_true hq5) ?_
  refine lv_topi (fun x6 ex6 => ?_)
  replace hf := nm_i hf ex6
  obtain rfl := Option.some.inj hf
  subst hQ
  exact en_i hx hb hr hP hS hlocks dL_low_6
def lb_L_tale_6 (fu : Nat) (u_now : TS) (u_history : TH) (u_text : TX) (u_kept : (Nat → Int32)) (rec : Int64 → Int32 → TV → Option (Int64 × TV)) (y105 : Int64) (v106 : Int32) (u107 : TV) : Option (Int64 × TV) :=
if (12 : Int32) ≤ v106 then (
some (y105, u107)
)
else (
nm (y105 * (31 : Int64)) fun (y111 : Int64) =>
bd (f_X4_count fu u_now u107 u_history u_text u_kept v106) fun (o112 : Int32 × TV) =>
nm (o112.1.toInt64) fun (y113 : Int64) =>
nm (y111 + y113) fun (y114 : Int64) =>
nm (v106 + (1 : Int32)) fun (x115 : Int32) =>
rec y114 x115 o112.2
)

def lf_L_tale_6 (fu : Nat) (u_now : TS) (u_history : TH) (u_text : TX) (u_kept : (Nat → Int32)) : Nat → Int64 → Int32 → TV → Option (Int64 × TV) := lq_3 (lb_L_tale_6 fu u_now u_history u_text u_kept)
def lb_L_tale_33 (fu : Nat) (u_now : TS) (u_history : TH) (u_text : TX) (u_kept : (Nat → Int32)) (rec : Int64 → Int32 → TV → Option (Int64 × TV)) (y142 : Int64) (v143 : Int32) (u144 : TV) : Option (Int64 × TV) :=
bd (f_X4_count fu u_now u144 u_history u_text u_kept ((0 : Int32))) fun (o147 : Int32 × TV) =>
if o147.1 ≤ v143 then (
some (y142, o147.2)
)
else (
nm (y142 * (37 : Int64)) fun (y149 : Int64) =>
bd (f_X4_sleeper fu u_now o147.2 v143 ((0 : Int32))) fun (o150 : Int32 × TV) =>
nm (o150.1.toInt64) fun (y151 : Int64) =>
nm (y149 + y151) fun (y152 : Int64) =>
bd (f_X4_sleeper fu u_now o150.2 v143 ((1 : Int32))) fun (o153 : Int32 × TV) =>
nm (o153.1.toInt64) fun (y154 : Int64) =>
nm ((3 : Int64) * y154) fun (y155 : Int64) =>
nm (y152 + y155) fun (y156 : Int64) =>
bd (f_X4_sleeper fu u_now o153.2 v143 ((8 : Int32))) fun (o157 : Int32 × TV) =>
nm (o157.1.toInt64) fun (y158 : Int64) =>
nm ((5 : Int64) * y158) fun (y159 : Int64) =>
nm (y156 + y159) fun (y160 : Int64) =>
bd (f_X4_sleeper fu u_now o157.2 v143 ((9 : Int32))) fun (o161 : Int32 × TV) =>
nm (o161.1.toInt64) fun (y162 : Int64) =>
nm ((7 : Int64) * y162) fun (y163 : Int64) =>
nm (y160 + y163) fun (y164 : Int64) =>
nm (v143 + (1 : Int32)) fun (x165 : Int32) =>
rec y164 x165 o161.2
)

def lf_L_tale_33 (fu : Nat) (u_now : TS) (u_history : TH) (u_text : TX) (u_kept : (Nat → Int32)) : Nat → Int64 → Int32 → TV → Option (Int64 × TV) := lq_3 (lb_L_tale_33 fu u_now u_history u_text u_kept)
def lb_L_tale_102 (fu : Nat) (u_now : TS) (rec : Int64 → Int32 → Option (Int64)) (y191 : Int64) (v192 : Int32) : Option (Int64) :=
if (6 : Int32) ≤ v192 then (
some (y191)
)
else (
nm (y191 * (41 : Int64)) fun (y196 : Int64) =>
bd (f_X4_job fu u_now v192 ((0 : Int32))) fun (o197 : Int32) =>
nm (o197.toInt64) fun (y198 : Int64) =>
nm (y196 + y198) fun (y199 : Int64) =>
bd (f_X4_job fu u_now v192 ((1 : Int32))) fun (o200 : Int32) =>
nm (o200.toInt64) fun (y201 : Int64) =>
nm ((3 : Int64) * y201) fun (y202 : Int64) =>
nm (y199 + y202) fun (y203 : Int64) =>
bd (f_X4_job fu u_now v192 ((2 : Int32))) fun (o204 : Int32) =>
nm (o204.toInt64) fun (y205 : Int64) =>
nm ((5 : Int64) * y205) fun (y206 : Int64) =>
nm (y203 + y206) fun (y207 : Int64) =>
bd (f_X4_job fu u_now v192 ((3 : Int32))) fun (o208 : Int32) =>
nm (o208.toInt64) fun (y209 : Int64) =>
nm ((7 : Int64) * y209) fun (y210 : Int64) =>
nm (y207 + y210) fun (y211 : Int64) =>
nm (v192 + (1 : Int32)) fun (x212 : Int32) =>
rec y211 x212
)

def lf_L_tale_102 (fu : Nat) (u_now : TS) : Nat → Int64 → Int32 → Option (Int64) := lq_2 (lb_L_tale_102 fu u_now)
def lb_L_tale_166 (fu : Nat) (u_now : TS) (rec : Int64 → Int32 → Option (Int64)) (y226 : Int64) (v227 : Int32) : Option (Int64) :=
if (7 : Int32) ≤ v227 then (
some (y226)
)
else (
nm (y226 * (43 : Int64)) fun (y231 : Int64) =>
bd (f_X4_account fu u_now v227) fun (o232 : Int32) =>
nm (o232.toInt64) fun (y233 : Int64) =>
nm (y231 + y233) fun (y234 : Int64) =>
nm (v227 + (1 : Int32)) fun (x235 : Int32) =>
rec y234 x235
)

def lf_L_tale_166 (fu : Nat) (u_now : TS) : Nat → Int64 → Int32 → Option (Int64) := lq_2 (lb_L_tale_166 fu u_now)
def f_L_tale (fu : Nat) (u_now : TS) (u_survey : TV) (u_history : TH) (u_text : TX) (u_kept : (Nat → Int32))  : Option (Int64 × TV) :=
bd (lf_L_tale_6 fu u_now u_history u_text u_kept fu ((3 : Int64)) ((0 : Int32)) u_survey) fun (z109 : Int64 × TV) =>
bd (lf_L_tale_33 fu u_now u_history u_text u_kept fu z109.1 ((0 : Int32)) z109.2) fun (z146 : Int64 × TV) =>
bd (lf_L_tale_102 fu u_now fu z146.1 ((0 : Int32))) fun (z194 : Int64) =>
bd (lf_L_tale_166 fu u_now fu z194 ((0 : Int32))) fun (z229 : Int64) =>
some (z229, z146.2)

abbrev rm_L_tale : Room := { frames := 6, cells := 0, slots := 0, locals := 130 }
set_option maxHeartbeats 4000000 in
set_option maxRecDepth 100000 in
theorem c_L_tale (l : Launch) (D : va_G) (cT : Nat → ClassId) (g : Nat → Nat) (fu : Nat) (u_now : TS) (u_survey : TV) (u_history : TH) (u_text : TX) (u_kept : (Nat → Int32))  (o : Int64 × TV) (hf : f_L_tale fu u_now u_survey u_history u_text u_kept  = some o) (sz : Nat) : Met l yL_tale wsL_tale rm_L_tale (va_Pc [.ref (g 0)] (PRE D cT sz (List.flatten [wT g, wS cT g 1 u_now, wV cT g 9 1 u_survey, wH cT g 25 u_history, wX cT g 75 u_text, wK cT g 94 u_kept]))) (QL D o.1 (List.flatten [wT g, wS cT g 1 u_now, wV cT g 9 1 o.2, wH cT g 25 u_history, wX cT g 75 u_text, wK cT g 94 u_kept]) (va_A (List.flatten [wT g, wS cT g 1 u_now, wV cT g 9 1 u_survey, wH cT g 25 u_history, wX cT g 75 u_text, wK cT g 94 u_kept]) sz)) 0 0 (va_A (List.flatten [wT g, wS cT g 1 u_now, wV cT g 9 1 u_survey, wH cT g 25 u_history, wX cT g 75 u_text, wK cT g 94 u_kept]) sz) := by
  refine Met.ofW (cc := cL_tale) (maxL := 4) (ret := (some .long)) (by decide) rfl ?_
  intro p e s m args below meth c s₁ B0 hml hv
  obtain ⟨hav, hsz, hP, hK, hD, hN, hZ⟩ := hv
  have hx := B0.exec
  have hb := B0.bytes
  have hr := B0.returns
  have hts := atoms_spec (ws := wsL_tale) B0.pre
  have hown : s.vm.findClass RL = some m.cls := findClass_of_methodNamed B0.named
  have hlocks := B0.notSynchronized
  subst hsz
  have hD := hD.self (sz := s.heap.size)
  have hA : ∀ q : Nat, s.heap.size ≤ q → va_A (List.flatten [wT g, wS cT g 1 u_now, wV cT g 9 1 u_survey, wH cT g 25 u_history, wX cT g 75 u_text, wK cT g 94 u_kept]) s.heap.size q := fun q h => Or.inr h
  generalize va_A (List.flatten [wT g, wS cT g 1 u_now, wV cT g 9 1 u_survey, wH cT g 25 u_history, wX cT g 75 u_text, wK cT g 94 u_kept]) s.heap.size = A at hD hZ hA ⊢
  have hS : va_S A s.heap s.heap [] := va_S.rf
  have hl := lv_entry ([.ref (g 0)]) (n := 4) (Nat.le_of_ble_eq_true rfl)
  rw [hav]
  rw [lg_entry_eq]
  generalize (lg_sl ([.ref (g 0)]) ++ List.replicate (4 - (lg_sl ([.ref (g 0)])).length) Slot.unset).toArray = ls at hl ⊢
  have hl : lv_has ls 4 [(0, .ref (g 0))] := hl
  rw [← hav]
  generalize hQ : MQ below _ _ _ _ _ _ = Q
  show W p l e rm_L_tale s m args below meth c s.heap [] 0 0 Q (F0 m 0 ls [])
  unfold f_L_tale at hf
  refine lv_ldc2 (v := 3) hx hb hown (hts (.constantLong RL 8 (3)) (List.mem_of_getElem? (i := 1) rfl)) dL_tale_0 ?_
  refine lv_lstore_n (lv' := [(1, .long ((3 : Int64))), (0, .ref (g 0))]) hx hb dL_tale_3 rfl hl (by decide) rfl (fun ls hl => ?_)
  refine lv_iconst (v := 0) hx hb dL_tale_4 (by decide) ?_
  refine lv_istore_n (lv' := [(3, .int ((0 : Int32))), (1, .long ((3 : Int64))), (0, .ref (g 0))]) hx hb dL_tale_5 rfl hl (by decide) rfl (fun ls hl => ?_)
  obtain ⟨z109, hz109, hf⟩ := bd_i hf
  have hL6 : ∀ (n : Nat) (y105 : Int64) (v106 : Int32) (u107 : TV) (z108 : Int64 × TV), lf_L_tale_6 fu u_now u_history u_text u_kept n y105 v106 u107 = some z108 → ∀ (H : Heap) (locs : List Loc) (ls : Array Slot), va_P D vwCl (List.flatten [wT g, wS cT g 1 u_now, wV cT g 9 1 u107, wH cT g 25 u_history, wX cT g 75 u_text, wK cT g 94 u_kept]) H → va_S A s.heap H locs → lv_has ls 4 [(0, .ref (g 0)), (1, .long y105), (3, .int v106)] → (∀ (H : Heap) (locs : List Loc) (ls : Array Slot), va_P D vwCl (List.flatten [wT g, wS cT g 1 u_now, wV cT g 9 1 z108.2, wH cT g 25 u_history, wX cT g 75 u_text, wK cT g 94 u_kept]) H → va_S A s.heap H locs → lv_has ls 4 [(0, .ref (g 0)), (1, .long z108.1)] → W p l e rm_L_tale s m args below meth c H locs 0 0 Q (F0 m 31 ls [])) → W p l e rm_L_tale s m args below meth c H locs 0 0 Q (F0 m 6 ls []) := by
    refine lq_3_ind (F := lb_L_tale_6 fu u_now u_history u_text u_kept) (fun rec ih y105 v106 u107 z108 hf H locs ls hP hS hl kx => ?_)
    unfold lb_L_tale_6 at hf
    refine lv_iload_n hx hb dL_tale_6 rfl (lv_at hl 2 rfl) ?_
    refine lv_bipush (v := 12) hx hb dL_tale_7 (by decide) ?_
    refine lv_icmp_ge (tgt := 31) hx hb dL_tale_9 (by decide) (fun c110 => ?_) (fun c110 => ?_)
    · replace hf := it_t hf c110
      obtain rfl := Option.some.inj hf
      exact kx _ _ _ hP hS (lv_sub hl [0, 1] rfl)
    · replace hf := it_f hf c110
      refine lv_lload_n hx hb dL_tale_12 rfl (lv_at hl 1 rfl) ?_
      refine lv_ldc2 (v := 31) hx hb hown (hts (.constantLong RL 10 (31)) (List.mem_of_getElem? (i := 2) rfl)) dL_tale_13 ?_
      refine lv_lmul hx hb dL_tale_16 ?_
      refine lv_topl (fun y111 ey111 => ?_)
      replace hf := nm_i hf ey111
      refine lv_aload_n hx hb dL_tale_17 rfl (lv_at hl 0 rfl) ?_
      refine lv_iload_n hx hb dL_tale_18 rfl (lv_at hl 2 rfl) ?_
      obtain ⟨o112, ho112, hf⟩ := bd_i hf
      refine cl_i [0, 1, 2, 3, 4, 5] [] [wT g, wS cT g 1 u_now, wV cT g 9 1 o112.2, wH cT g 25 u_history, wX cT g 75 u_text, wK cT g 94 u_kept] hP (va_D_adr hD rfl) hA hS (va_runV (As := [.int v106]) (rest := [.long y111]) ⟨hx, hb, hml, hown, hts⟩ (c_X4_count l D cT g  fu u_now u107 u_history u_text u_kept v106 o112 ho112 _) (cwV 1 hts gL_tale_X4_count rfl rfl rfl (by decide +kernel) ⟨Nat.le_of_ble_eq_true rfl, Nat.le_of_ble_eq_true rfl⟩) ⟨PRE_blind, va_recv hK hP (ci := 4) (q0 := 0) rfl rfl, PRE_ok [0, 1, 2, 3, 4, 5] (by decide) hP (va_D_adr hD rfl) hA hS hK hN hZ⟩ rfl rfl hl.1 rfl (lv_room (Nat.le_of_ble_eq_true rfl)) dL_tale_19 ⟨Nat.le_of_ble_eq_true rfl, Nat.le_of_ble_eq_true rfl⟩) rfl 6 rfl (by decide) (by decide) (fun H locs hP hS => ?_)
      refine lv_i2l (v := o112.1.toInt64) hx hb dL_tale_22 rfl ?_
      refine lv_topl (fun y113 ey113 => ?_)
      replace hf := nm_i hf ey113
      refine lv_ladd hx hb dL_tale_23 ?_
      refine lv_topl (fun y114 ey114 => ?_)
      replace hf := nm_i hf ey114
      refine lv_lstore_n (lv' := [(1, .long y114), (0, .ref (g 0)), (3, .int v106)]) hx hb dL_tale_24 rfl hl (by decide) rfl (fun ls hl => ?_)
      obtain ⟨x115, ex115⟩ : ∃ z : Int32, z = v106 + (1 : Int32) := ⟨_, rfl⟩
      replace hf := nm_i hf ex115
      refine lv_iinc (v := x115) (lv' := [(3, .int x115), (1, .long y114), (0, .ref (g 0))]) hx hb dL_tale_25 hl (k := 2) rfl (by rw [ex115]; rfl) (by decide) rfl (fun ls hl => ?_)
      refine lv_goto (tgt := 6) hx hb dL_tale_28 (by decide) ?_
      exact ih _ _ _ _ hf _ _ _ hP hS (lv_sub hl [2, 1, 0] rfl) kx
  refine hL6 fu _ _ _ _ hz109 _ _ _ hP hS (lv_sub hl [2, 1, 0] rfl) (fun H locs ls hP hS hl => ?_)
  refine lv_iconst (v := 0) hx hb dL_tale_31 (by decide) ?_
  refine lv_istore_n (lv' := [(3, .int ((0 : Int32))), (0, .ref (g 0)), (1, .long z109.1)]) hx hb dL_tale_32 rfl hl (by decide) rfl (fun ls hl => ?_)
  obtain ⟨z146, hz146, hf⟩ := bd_i hf
  have hL33 : ∀ (n : Nat) (y142 : Int64) (v143 : Int32) (u144 : TV) (z145 : Int64 × TV), lf_L_tale_33 fu u_now u_history u_text u_kept n y142 v143 u144 = some z145 → ∀ (H : Heap) (locs : List Loc) (ls : Array Slot), va_P D vwCl (List.flatten [wT g, wS cT g 1 u_now, wV cT g 9 1 u144, wH cT g 25 u_history, wX cT g 75 u_text, wK cT g 94 u_kept]) H → va_S A s.heap H locs → lv_has ls 4 [(0, .ref (g 0)), (1, .long y142), (3, .int v143)] → (∀ (H : Heap) (locs : List Loc) (ls : Array Slot), va_P D vwCl (List.flatten [wT g, wS cT g 1 u_now, wV cT g 9 1 z145.2, wH cT g 25 u_history, wX cT g 75 u_text, wK cT g 94 u_kept]) H → va_S A s.heap H locs → lv_has ls 4 [(0, .ref (g 0)), (1, .long z145.1)] → W p l e rm_L_tale s m args below meth c H locs 0 0 Q (F0 m 100 ls [])) → W p l e rm_L_tale s m args below meth c H locs 0 0 Q (F0 m 33 ls []) := by
    refine lq_3_ind (F := lb_L_tale_33 fu u_now u_history u_text u_kept) (fun rec ih y142 v143 u144 z145 hf H locs ls hP hS hl kx => ?_)
    unfold lb_L_tale_33 at hf
    refine lv_iload_n hx hb dL_tale_33 rfl (lv_at hl 2 rfl) ?_
    refine lv_aload_n hx hb dL_tale_34 rfl (lv_at hl 0 rfl) ?_
    refine lv_iconst (v := 0) hx hb dL_tale_35 (by decide) ?_
    obtain ⟨o147, ho147, hf⟩ := bd_i hf
    refine cl_i [0, 1, 2, 3, 4, 5] [] [wT g, wS cT g 1 u_now, wV cT g 9 1 o147.2, wH cT g 25 u_history, wX cT g 75 u_text, wK cT g 94 u_kept] hP (va_D_adr hD rfl) hA hS (va_runV (As := [.int ((0 : Int32))]) (rest := [.int v143]) ⟨hx, hb, hml, hown, hts⟩ (c_X4_count l D cT g  fu u_now u144 u_history u_text u_kept ((0 : Int32)) o147 ho147 _) (cwV 1 hts gL_tale_X4_count rfl rfl rfl (by decide +kernel) ⟨Nat.le_of_ble_eq_true rfl, Nat.le_of_ble_eq_true rfl⟩) ⟨PRE_blind, va_recv hK hP (ci := 4) (q0 := 0) rfl rfl, PRE_ok [0, 1, 2, 3, 4, 5] (by decide) hP (va_D_adr hD rfl) hA hS hK hN hZ⟩ rfl rfl hl.1 rfl (lv_room (Nat.le_of_ble_eq_true rfl)) dL_tale_36 ⟨Nat.le_of_ble_eq_true rfl, Nat.le_of_ble_eq_true rfl⟩) rfl 6 rfl (by decide) (by decide) (fun H locs hP hS => ?_)
    refine lv_icmp_ge (tgt := 100) hx hb dL_tale_39 (by decide) (fun c148 => ?_) (fun c148 => ?_)
    · replace hf := it_t hf c148
      obtain rfl := Option.some.inj hf
      exact kx _ _ _ hP hS (lv_sub hl [0, 1] rfl)
    · replace hf := it_f hf c148
      refine lv_lload_n hx hb dL_tale_42 rfl (lv_at hl 1 rfl) ?_
      refine lv_ldc2 (v := 37) hx hb hown (hts (.constantLong RL 18 (37)) (List.mem_of_getElem? (i := 3) rfl)) dL_tale_43 ?_
      refine lv_lmul hx hb dL_tale_46 ?_
      refine lv_topl (fun y149 ey149 => ?_)
      replace hf := nm_i hf ey149
      refine lv_aload_n hx hb dL_tale_47 rfl (lv_at hl 0 rfl) ?_
      refine lv_iload_n hx hb dL_tale_48 rfl (lv_at hl 2 rfl) ?_
      refine lv_iconst (v := 0) hx hb dL_tale_49 (by decide) ?_
      obtain ⟨o150, ho150, hf⟩ := bd_i hf
      refine cl_i [0, 1, 2] [3, 4, 5] [wT g, wS cT g 1 u_now, wV cT g 9 1 o150.2, wH cT g 25 u_history, wX cT g 75 u_text, wK cT g 94 u_kept] hP (va_D_adr hD rfl) hA hS (va_runV (As := [.int v143, .int ((0 : Int32))]) (rest := [.long y149]) ⟨hx, hb, hml, hown, hts⟩ (c_X4_sleeper l D cT g  fu u_now o147.2 v143 ((0 : Int32)) o150 ho150 _) (cwV 2 hts gL_tale_X4_sleeper rfl rfl rfl (by decide +kernel) ⟨Nat.le_of_ble_eq_true rfl, Nat.le_of_ble_eq_true rfl⟩) ⟨PRE_blind, va_recv hK hP (ci := 4) (q0 := 0) rfl rfl, PRE_ok [0, 1, 2] (by decide) hP (va_D_adr hD rfl) hA hS hK hN hZ⟩ rfl rfl hl.1 rfl (lv_room (Nat.le_of_ble_eq_true rfl)) dL_tale_50 ⟨Nat.le_of_ble_eq_true rfl, Nat.le_of_ble_eq_true rfl⟩) rfl 6 rfl (by decide) (by decide) (fun H locs hP hS => ?_)
      refine lv_i2l (v := o150.1.toInt64) hx hb dL_tale_53 rfl ?_
      refine lv_topl (fun y151 ey151 => ?_)
      replace hf := nm_i hf ey151
      refine lv_ladd hx hb dL_tale_54 ?_
      refine lv_topl (fun y152 ey152 => ?_)
      replace hf := nm_i hf ey152
      refine lv_ldc2 (v := 3) hx hb hown (hts (.constantLong RL 8 (3)) (List.mem_of_getElem? (i := 1) rfl)) dL_tale_55 ?_
      refine lv_aload_n hx hb dL_tale_58 rfl (lv_at hl 0 rfl) ?_
      refine lv_iload_n hx hb dL_tale_59 rfl (lv_at hl 2 rfl) ?_
      refine lv_iconst (v := 1) hx hb dL_tale_60 (by decide) ?_
      obtain ⟨o153, ho153, hf⟩ := bd_i hf
      refine cl_i [0, 1, 2] [3, 4, 5] [wT g, wS cT g 1 u_now, wV cT g 9 1 o153.2, wH cT g 25 u_history, wX cT g 75 u_text, wK cT g 94 u_kept] hP (va_D_adr hD rfl) hA hS (va_runV (As := [.int v143, .int ((1 : Int32))]) (rest := [.long ((3 : Int64)), .long y152]) ⟨hx, hb, hml, hown, hts⟩ (c_X4_sleeper l D cT g  fu u_now o150.2 v143 ((1 : Int32)) o153 ho153 _) (cwV 2 hts gL_tale_X4_sleeper rfl rfl rfl (by decide +kernel) ⟨Nat.le_of_ble_eq_true rfl, Nat.le_of_ble_eq_true rfl⟩) ⟨PRE_blind, va_recv hK hP (ci := 4) (q0 := 0) rfl rfl, PRE_ok [0, 1, 2] (by decide) hP (va_D_adr hD rfl) hA hS hK hN hZ⟩ rfl rfl hl.1 rfl (lv_room (Nat.le_of_ble_eq_true rfl)) dL_tale_61 ⟨Nat.le_of_ble_eq_true rfl, Nat.le_of_ble_eq_true rfl⟩) rfl 6 rfl (by decide) (by decide) (fun H locs hP hS => ?_)
      refine lv_i2l (v := o153.1.toInt64) hx hb dL_tale_64 rfl ?_
      refine lv_topl (fun y154 ey154 => ?_)
      replace hf := nm_i hf ey154
      refine lv_lmul hx hb dL_tale_65 ?_
      refine lv_topl (fun y155 ey155 => ?_)
      replace hf := nm_i hf ey155
      refine lv_ladd hx hb dL_tale_66 ?_
      refine lv_topl (fun y156 ey156 => ?_)
      replace hf := nm_i hf ey156
      refine lv_ldc2 (v := 5) hx hb hown (hts (.constantLong RL 24 (5)) (List.mem_of_getElem? (i := 4) rfl)) dL_tale_67 ?_
      refine lv_aload_n hx hb dL_tale_70 rfl (lv_at hl 0 rfl) ?_
      refine lv_iload_n hx hb dL_tale_71 rfl (lv_at hl 2 rfl) ?_
      refine lv_bipush (v := 8) hx hb dL_tale_72 (by decide) ?_
      obtain ⟨o157, ho157, hf⟩ := bd_i hf
      refine cl_i [0, 1, 2] [3, 4, 5] [wT g, wS cT g 1 u_now, wV cT g 9 1 o157.2, wH cT g 25 u_history, wX cT g 75 u_text, wK cT g 94 u_kept] hP (va_D_adr hD rfl) hA hS (va_runV (As := [.int v143, .int ((8 : Int32))]) (rest := [.long ((5 : Int64)), .long y156]) ⟨hx, hb, hml, hown, hts⟩ (c_X4_sleeper l D cT g  fu u_now o153.2 v143 ((8 : Int32)) o157 ho157 _) (cwV 2 hts gL_tale_X4_sleeper rfl rfl rfl (by decide +kernel) ⟨Nat.le_of_ble_eq_true rfl, Nat.le_of_ble_eq_true rfl⟩) ⟨PRE_blind, va_recv hK hP (ci := 4) (q0 := 0) rfl rfl, PRE_ok [0, 1, 2] (by decide) hP (va_D_adr hD rfl) hA hS hK hN hZ⟩ rfl rfl hl.1 rfl (lv_room (Nat.le_of_ble_eq_true rfl)) dL_tale_74 ⟨Nat.le_of_ble_eq_true rfl, Nat.le_of_ble_eq_true rfl⟩) rfl 6 rfl (by decide) (by decide) (fun H locs hP hS => ?_)
      refine lv_i2l (v := o157.1.toInt64) hx hb dL_tale_77 rfl ?_
      refine lv_topl (fun y158 ey158 => ?_)
      replace hf := nm_i hf ey158
      refine lv_lmul hx hb dL_tale_78 ?_
      refine lv_topl (fun y159 ey159 => ?_)
      replace hf := nm_i hf ey159
      refine lv_ladd hx hb dL_tale_79 ?_
      refine lv_topl (fun y160 ey160 => ?_)
      replace hf := nm_i hf ey160
      refine lv_ldc2 (v := 7) hx hb hown (hts (.constantLong RL 26 (7)) (List.mem_of_getElem? (i := 5) rfl)) dL_tale_80 ?_
      refine lv_aload_n hx hb dL_tale_83 rfl (lv_at hl 0 rfl) ?_
      refine lv_iload_n hx hb dL_tale_84 rfl (lv_at hl 2 rfl) ?_
      refine lv_bipush (v := 9) hx hb dL_tale_85 (by decide) ?_
      obtain ⟨o161, ho161, hf⟩ := bd_i hf
      refine cl_i [0, 1, 2] [3, 4, 5] [wT g, wS cT g 1 u_now, wV cT g 9 1 o161.2, wH cT g 25 u_history, wX cT g 75 u_text, wK cT g 94 u_kept] hP (va_D_adr hD rfl) hA hS (va_runV (As := [.int v143, .int ((9 : Int32))]) (rest := [.long ((7 : Int64)), .long y160]) ⟨hx, hb, hml, hown, hts⟩ (c_X4_sleeper l D cT g  fu u_now o157.2 v143 ((9 : Int32)) o161 ho161 _) (cwV 2 hts gL_tale_X4_sleeper rfl rfl rfl (by decide +kernel) ⟨Nat.le_of_ble_eq_true rfl, Nat.le_of_ble_eq_true rfl⟩) ⟨PRE_blind, va_recv hK hP (ci := 4) (q0 := 0) rfl rfl, PRE_ok [0, 1, 2] (by decide) hP (va_D_adr hD rfl) hA hS hK hN hZ⟩ rfl rfl hl.1 rfl (lv_room (Nat.le_of_ble_eq_true rfl)) dL_tale_87 ⟨Nat.le_of_ble_eq_true rfl, Nat.le_of_ble_eq_true rfl⟩) rfl 6 rfl (by decide) (by decide) (fun H locs hP hS => ?_)
      refine lv_i2l (v := o161.1.toInt64) hx hb dL_tale_90 rfl ?_
      refine lv_topl (fun y162 ey162 => ?_)
      replace hf := nm_i hf ey162
      refine lv_lmul hx hb dL_tale_91 ?_
      refine lv_topl (fun y163 ey163 => ?_)
      replace hf := nm_i hf ey163
      refine lv_ladd hx hb dL_tale_92 ?_
      refine lv_topl (fun y164 ey164 => ?_)
      replace hf := nm_i hf ey164
      refine lv_lstore_n (lv' := [(1, .long y164), (0, .ref (g 0)), (3, .int v143)]) hx hb dL_tale_93 rfl hl (by decide) rfl (fun ls hl => ?_)
      obtain ⟨x165, ex165⟩ : ∃ z : Int32, z = v143 + (1 : Int32) := ⟨_, rfl⟩
      replace hf := nm_i hf ex165
      refine lv_iinc (v := x165) (lv' := [(3, .int x165), (1, .long y164), (0, .ref (g 0))]) hx hb dL_tale_94 hl (k := 2) rfl (by rw [ex165]; rfl) (by decide) rfl (fun ls hl => ?_)
      refine lv_goto (tgt := 33) hx hb dL_tale_97 (by decide) ?_
      exact ih _ _ _ _ hf _ _ _ hP hS (lv_sub hl [2, 1, 0] rfl) kx
  refine hL33 fu _ _ _ _ hz146 _ _ _ hP hS (lv_sub hl [1, 2, 0] rfl) (fun H locs ls hP hS hl => ?_)
  refine lv_iconst (v := 0) hx hb dL_tale_100 (by decide) ?_
  refine lv_istore_n (lv' := [(3, .int ((0 : Int32))), (0, .ref (g 0)), (1, .long z146.1)]) hx hb dL_tale_101 rfl hl (by decide) rfl (fun ls hl => ?_)
  obtain ⟨z194, hz194, hf⟩ := bd_i hf
  have hL102 : ∀ (n : Nat) (y191 : Int64) (v192 : Int32) (z193 : Int64), lf_L_tale_102 fu u_now n y191 v192 = some z193 → ∀ (H : Heap) (locs : List Loc) (ls : Array Slot), va_P D vwCl (List.flatten [wT g, wS cT g 1 u_now, wV cT g 9 1 z146.2, wH cT g 25 u_history, wX cT g 75 u_text, wK cT g 94 u_kept]) H → va_S A s.heap H locs → lv_has ls 4 [(0, .ref (g 0)), (1, .long y191), (3, .int v192)] → (∀ (H : Heap) (locs : List Loc) (ls : Array Slot), va_P D vwCl (List.flatten [wT g, wS cT g 1 u_now, wV cT g 9 1 z146.2, wH cT g 25 u_history, wX cT g 75 u_text, wK cT g 94 u_kept]) H → va_S A s.heap H locs → lv_has ls 4 [(0, .ref (g 0)), (1, .long z193)] → W p l e rm_L_tale s m args below meth c H locs 0 0 Q (F0 m 164 ls [])) → W p l e rm_L_tale s m args below meth c H locs 0 0 Q (F0 m 102 ls []) := by
    refine lq_2_ind (F := lb_L_tale_102 fu u_now) (fun rec ih y191 v192 z193 hf H locs ls hP hS hl kx => ?_)
    unfold lb_L_tale_102 at hf
    refine lv_iload_n hx hb dL_tale_102 rfl (lv_at hl 2 rfl) ?_
    refine lv_bipush (v := 6) hx hb dL_tale_103 (by decide) ?_
    refine lv_icmp_ge (tgt := 164) hx hb dL_tale_105 (by decide) (fun c195 => ?_) (fun c195 => ?_)
    · replace hf := it_t hf c195
      obtain rfl := Option.some.inj hf
      exact kx _ _ _ hP hS (lv_sub hl [0, 1] rfl)
    · replace hf := it_f hf c195
      refine lv_lload_n hx hb dL_tale_108 rfl (lv_at hl 1 rfl) ?_
      refine lv_ldc2 (v := 41) hx hb hown (hts (.constantLong RL 28 (41)) (List.mem_of_getElem? (i := 6) rfl)) dL_tale_109 ?_
      refine lv_lmul hx hb dL_tale_112 ?_
      refine lv_topl (fun y196 ey196 => ?_)
      replace hf := nm_i hf ey196
      refine lv_aload_n hx hb dL_tale_113 rfl (lv_at hl 0 rfl) ?_
      refine lv_iload_n hx hb dL_tale_114 rfl (lv_at hl 2 rfl) ?_
      refine lv_iconst (v := 0) hx hb dL_tale_115 (by decide) ?_
      obtain ⟨o197, ho197, hf⟩ := bd_i hf
      refine cl_i [0, 1] [2, 3, 4, 5] [wT g, wS cT g 1 u_now, wV cT g 9 1 z146.2, wH cT g 25 u_history, wX cT g 75 u_text, wK cT g 94 u_kept] hP (va_D_adr hD rfl) hA hS (va_runV (As := [.int v192, .int ((0 : Int32))]) (rest := [.long y196]) ⟨hx, hb, hml, hown, hts⟩ (c_X4_job l D cT g  fu u_now v192 ((0 : Int32)) o197 ho197 _) (cwV 2 hts gL_tale_X4_job rfl rfl rfl (by decide +kernel) ⟨Nat.le_of_ble_eq_true rfl, Nat.le_of_ble_eq_true rfl⟩) ⟨PRE_blind, va_recv hK hP (ci := 4) (q0 := 0) rfl rfl, PRE_ok [0, 1] (by decide) hP (va_D_adr hD rfl) hA hS hK hN hZ⟩ rfl rfl hl.1 rfl (lv_room (Nat.le_of_ble_eq_true rfl)) dL_tale_116 ⟨Nat.le_of_ble_eq_true rfl, Nat.le_of_ble_eq_true rfl⟩) rfl 6 rfl (by decide) (by decide) (fun H locs hP hS => ?_)
      refine lv_i2l (v := o197.toInt64) hx hb dL_tale_119 rfl ?_
      refine lv_topl (fun y198 ey198 => ?_)
      replace hf := nm_i hf ey198
      refine lv_ladd hx hb dL_tale_120 ?_
      refine lv_topl (fun y199 ey199 => ?_)
      replace hf := nm_i hf ey199
      refine lv_ldc2 (v := 3) hx hb hown (hts (.constantLong RL 8 (3)) (List.mem_of_getElem? (i := 1) rfl)) dL_tale_121 ?_
      refine lv_aload_n hx hb dL_tale_124 rfl (lv_at hl 0 rfl) ?_
      refine lv_iload_n hx hb dL_tale_125 rfl (lv_at hl 2 rfl) ?_
      refine lv_iconst (v := 1) hx hb dL_tale_126 (by decide) ?_
      obtain ⟨o200, ho200, hf⟩ := bd_i hf
      refine cl_i [0, 1] [2, 3, 4, 5] [wT g, wS cT g 1 u_now, wV cT g 9 1 z146.2, wH cT g 25 u_history, wX cT g 75 u_text, wK cT g 94 u_kept] hP (va_D_adr hD rfl) hA hS (va_runV (As := [.int v192, .int ((1 : Int32))]) (rest := [.long ((3 : Int64)), .long y199]) ⟨hx, hb, hml, hown, hts⟩ (c_X4_job l D cT g  fu u_now v192 ((1 : Int32)) o200 ho200 _) (cwV 2 hts gL_tale_X4_job rfl rfl rfl (by decide +kernel) ⟨Nat.le_of_ble_eq_true rfl, Nat.le_of_ble_eq_true rfl⟩) ⟨PRE_blind, va_recv hK hP (ci := 4) (q0 := 0) rfl rfl, PRE_ok [0, 1] (by decide) hP (va_D_adr hD rfl) hA hS hK hN hZ⟩ rfl rfl hl.1 rfl (lv_room (Nat.le_of_ble_eq_true rfl)) dL_tale_127 ⟨Nat.le_of_ble_eq_true rfl, Nat.le_of_ble_eq_true rfl⟩) rfl 6 rfl (by decide) (by decide) (fun H locs hP hS => ?_)
      refine lv_i2l (v := o200.toInt64) hx hb dL_tale_130 rfl ?_
      refine lv_topl (fun y201 ey201 => ?_)
      replace hf := nm_i hf ey201
      refine lv_lmul hx hb dL_tale_131 ?_
      refine lv_topl (fun y202 ey202 => ?_)
      replace hf := nm_i hf ey202
      refine lv_ladd hx hb dL_tale_132 ?_
      refine lv_topl (fun y203 ey203 => ?_)
      replace hf := nm_i hf ey203
      refine lv_ldc2 (v := 5) hx hb hown (hts (.constantLong RL 24 (5)) (List.mem_of_getElem? (i := 4) rfl)) dL_tale_133 ?_
      refine lv_aload_n hx hb dL_tale_136 rfl (lv_at hl 0 rfl) ?_
      refine lv_iload_n hx hb dL_tale_137 rfl (lv_at hl 2 rfl) ?_
      refine lv_iconst (v := 2) hx hb dL_tale_138 (by decide) ?_
      obtain ⟨o204, ho204, hf⟩ := bd_i hf
      refine cl_i [0, 1] [2, 3, 4, 5] [wT g, wS cT g 1 u_now, wV cT g 9 1 z146.2, wH cT g 25 u_history, wX cT g 75 u_text, wK cT g 94 u_kept] hP (va_D_adr hD rfl) hA hS (va_runV (As := [.int v192, .int ((2 : Int32))]) (rest := [.long ((5 : Int64)), .long y203]) ⟨hx, hb, hml, hown, hts⟩ (c_X4_job l D cT g  fu u_now v192 ((2 : Int32)) o204 ho204 _) (cwV 2 hts gL_tale_X4_job rfl rfl rfl (by decide +kernel) ⟨Nat.le_of_ble_eq_true rfl, Nat.le_of_ble_eq_true rfl⟩) ⟨PRE_blind, va_recv hK hP (ci := 4) (q0 := 0) rfl rfl, PRE_ok [0, 1] (by decide) hP (va_D_adr hD rfl) hA hS hK hN hZ⟩ rfl rfl hl.1 rfl (lv_room (Nat.le_of_ble_eq_true rfl)) dL_tale_139 ⟨Nat.le_of_ble_eq_true rfl, Nat.le_of_ble_eq_true rfl⟩) rfl 6 rfl (by decide) (by decide) (fun H locs hP hS => ?_)
      refine lv_i2l (v := o204.toInt64) hx hb dL_tale_142 rfl ?_
      refine lv_topl (fun y205 ey205 => ?_)
      replace hf := nm_i hf ey205
      refine lv_lmul hx hb dL_tale_143 ?_
      refine lv_topl (fun y206 ey206 => ?_)
      replace hf := nm_i hf ey206
      refine lv_ladd hx hb dL_tale_144 ?_
      refine lv_topl (fun y207 ey207 => ?_)
      replace hf := nm_i hf ey207
      refine lv_ldc2 (v := 7) hx hb hown (hts (.constantLong RL 26 (7)) (List.mem_of_getElem? (i := 5) rfl)) dL_tale_145 ?_
      refine lv_aload_n hx hb dL_tale_148 rfl (lv_at hl 0 rfl) ?_
      refine lv_iload_n hx hb dL_tale_149 rfl (lv_at hl 2 rfl) ?_
      refine lv_iconst (v := 3) hx hb dL_tale_150 (by decide) ?_
      obtain ⟨o208, ho208, hf⟩ := bd_i hf
      refine cl_i [0, 1] [2, 3, 4, 5] [wT g, wS cT g 1 u_now, wV cT g 9 1 z146.2, wH cT g 25 u_history, wX cT g 75 u_text, wK cT g 94 u_kept] hP (va_D_adr hD rfl) hA hS (va_runV (As := [.int v192, .int ((3 : Int32))]) (rest := [.long ((7 : Int64)), .long y207]) ⟨hx, hb, hml, hown, hts⟩ (c_X4_job l D cT g  fu u_now v192 ((3 : Int32)) o208 ho208 _) (cwV 2 hts gL_tale_X4_job rfl rfl rfl (by decide +kernel) ⟨Nat.le_of_ble_eq_true rfl, Nat.le_of_ble_eq_true rfl⟩) ⟨PRE_blind, va_recv hK hP (ci := 4) (q0 := 0) rfl rfl, PRE_ok [0, 1] (by decide) hP (va_D_adr hD rfl) hA hS hK hN hZ⟩ rfl rfl hl.1 rfl (lv_room (Nat.le_of_ble_eq_true rfl)) dL_tale_151 ⟨Nat.le_of_ble_eq_true rfl, Nat.le_of_ble_eq_true rfl⟩) rfl 6 rfl (by decide) (by decide) (fun H locs hP hS => ?_)
      refine lv_i2l (v := o208.toInt64) hx hb dL_tale_154 rfl ?_
      refine lv_topl (fun y209 ey209 => ?_)
      replace hf := nm_i hf ey209
      refine lv_lmul hx hb dL_tale_155 ?_
      refine lv_topl (fun y210 ey210 => ?_)
      replace hf := nm_i hf ey210
      refine lv_ladd hx hb dL_tale_156 ?_
      refine lv_topl (fun y211 ey211 => ?_)
      replace hf := nm_i hf ey211
      refine lv_lstore_n (lv' := [(1, .long y211), (0, .ref (g 0)), (3, .int v192)]) hx hb dL_tale_157 rfl hl (by decide) rfl (fun ls hl => ?_)
      obtain ⟨x212, ex212⟩ : ∃ z : Int32, z = v192 + (1 : Int32) := ⟨_, rfl⟩
      replace hf := nm_i hf ex212
      refine lv_iinc (v := x212) (lv' := [(3, .int x212), (1, .long y211), (0, .ref (g 0))]) hx hb dL_tale_158 hl (k := 2) rfl (by rw [ex212]; rfl) (by decide) rfl (fun ls hl => ?_)
      refine lv_goto (tgt := 102) hx hb dL_tale_161 (by decide) ?_
      exact ih _ _ _ hf _ _ _ hP hS (lv_sub hl [2, 1, 0] rfl) kx
  refine hL102 fu _ _ _ hz194 _ _ _ hP hS (lv_sub hl [1, 2, 0] rfl) (fun H locs ls hP hS hl => ?_)
  refine lv_iconst (v := 0) hx hb dL_tale_164 (by decide) ?_
  refine lv_istore_n (lv' := [(3, .int ((0 : Int32))), (0, .ref (g 0)), (1, .long z194)]) hx hb dL_tale_165 rfl hl (by decide) rfl (fun ls hl => ?_)
  obtain ⟨z229, hz229, hf⟩ := bd_i hf
  have hL166 : ∀ (n : Nat) (y226 : Int64) (v227 : Int32) (z228 : Int64), lf_L_tale_166 fu u_now n y226 v227 = some z228 → ∀ (H : Heap) (locs : List Loc) (ls : Array Slot), va_P D vwCl (List.flatten [wT g, wS cT g 1 u_now, wV cT g 9 1 z146.2, wH cT g 25 u_history, wX cT g 75 u_text, wK cT g 94 u_kept]) H → va_S A s.heap H locs → lv_has ls 4 [(0, .ref (g 0)), (1, .long y226), (3, .int v227)] → (∀ (H : Heap) (locs : List Loc) (ls : Array Slot), va_P D vwCl (List.flatten [wT g, wS cT g 1 u_now, wV cT g 9 1 z146.2, wH cT g 25 u_history, wX cT g 75 u_text, wK cT g 94 u_kept]) H → va_S A s.heap H locs → lv_has ls 4 [(1, .long z228)] → W p l e rm_L_tale s m args below meth c H locs 0 0 Q (F0 m 191 ls [])) → W p l e rm_L_tale s m args below meth c H locs 0 0 Q (F0 m 166 ls []) := by
    refine lq_2_ind (F := lb_L_tale_166 fu u_now) (fun rec ih y226 v227 z228 hf H locs ls hP hS hl kx => ?_)
    unfold lb_L_tale_166 at hf
    refine lv_iload_n hx hb dL_tale_166 rfl (lv_at hl 2 rfl) ?_
    refine lv_bipush (v := 7) hx hb dL_tale_167 (by decide) ?_
    refine lv_icmp_ge (tgt := 191) hx hb dL_tale_169 (by decide) (fun c230 => ?_) (fun c230 => ?_)
    · replace hf := it_t hf c230
      obtain rfl := Option.some.inj hf
      exact kx _ _ _ hP hS (lv_sub hl [1] rfl)
    · replace hf := it_f hf c230
      refine lv_lload_n hx hb dL_tale_172 rfl (lv_at hl 1 rfl) ?_
      refine lv_ldc2 (v := 43) hx hb hown (hts (.constantLong RL 33 (43)) (List.mem_of_getElem? (i := 7) rfl)) dL_tale_173 ?_
      refine lv_lmul hx hb dL_tale_176 ?_
      refine lv_topl (fun y231 ey231 => ?_)
      replace hf := nm_i hf ey231
      refine lv_aload_n hx hb dL_tale_177 rfl (lv_at hl 0 rfl) ?_
      refine lv_iload_n hx hb dL_tale_178 rfl (lv_at hl 2 rfl) ?_
      obtain ⟨o232, ho232, hf⟩ := bd_i hf
      refine cl_i [0, 1] [2, 3, 4, 5] [wT g, wS cT g 1 u_now, wV cT g 9 1 z146.2, wH cT g 25 u_history, wX cT g 75 u_text, wK cT g 94 u_kept] hP (va_D_adr hD rfl) hA hS (va_runV (As := [.int v227]) (rest := [.long y231]) ⟨hx, hb, hml, hown, hts⟩ (c_X4_account l D cT g  fu u_now v227 o232 ho232 _) (cwV 1 hts gL_tale_X4_account rfl rfl rfl (by decide +kernel) ⟨Nat.le_of_ble_eq_true rfl, Nat.le_of_ble_eq_true rfl⟩) ⟨PRE_blind, va_recv hK hP (ci := 4) (q0 := 0) rfl rfl, PRE_ok [0, 1] (by decide) hP (va_D_adr hD rfl) hA hS hK hN hZ⟩ rfl rfl hl.1 rfl (lv_room (Nat.le_of_ble_eq_true rfl)) dL_tale_179 ⟨Nat.le_of_ble_eq_true rfl, Nat.le_of_ble_eq_true rfl⟩) rfl 6 rfl (by decide) (by decide) (fun H locs hP hS => ?_)
      refine lv_i2l (v := o232.toInt64) hx hb dL_tale_182 rfl ?_
      refine lv_topl (fun y233 ey233 => ?_)
      replace hf := nm_i hf ey233
      refine lv_ladd hx hb dL_tale_183 ?_
      refine lv_topl (fun y234 ey234 => ?_)
      replace hf := nm_i hf ey234
      refine lv_lstore_n (lv' := [(1, .long y234), (0, .ref (g 0)), (3, .int v227)]) hx hb dL_tale_184 rfl hl (by decide) rfl (fun ls hl => ?_)
      obtain ⟨x235, ex235⟩ : ∃ z : Int32, z = v227 + (1 : Int32) := ⟨_, rfl⟩
      replace hf := nm_i hf ex235
      refine lv_iinc (v := x235) (lv' := [(3, .int x235), (1, .long y234), (0, .ref (g 0))]) hx hb dL_tale_185 hl (k := 2) rfl (by rw [ex235]; rfl) (by decide) rfl (fun ls hl => ?_)
      refine lv_goto (tgt := 166) hx hb dL_tale_188 (by decide) ?_
      exact ih _ _ _ hf _ _ _ hP hS (lv_sub hl [2, 1, 0] rfl) kx
  refine hL166 fu _ _ _ hz229 _ _ _ hP hS (lv_sub hl [1, 2, 0] rfl) (fun H locs ls hP hS hl => ?_)
  refine lv_lload_n hx hb dL_tale_191 rfl (lv_at hl 0 rfl) ?_
  obtain rfl := Option.some.inj hf
  subst hQ
  exact en_l hx hb hr hP hS hlocks dL_tale_192
