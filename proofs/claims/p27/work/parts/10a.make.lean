
section CPT
variable {p : Program} {l : Launch} {e : Env} {R : Room} {s : State} {m : MethodId} {args : Array Value} {below : List Frame} {meth : Method} {c : Code} {H : Heap} {locs : List Loc} {cells slots : Nat} {Q : State → Prop}
variable {cc : ByteArray} {pc : Nat} {ls : Array Slot} {rest : List Value} {D : va_G} {cl : List vw_C} {A : Nat → Prop} {a : Nat} {tys : List (ClassId × FieldType)} {ws : va_W}
/-- a copy out of a static array of ints -/
theorem cpt_i {cc : ByteArray} (hexec : p.tables.exec = Jvm.exec) (hb : c.code = cc) (hml : c.maxLocals = ls.size) {own : String} {index : Nat} (hown : s.vm.findClass own = some m.cls) (hlink : (Cond.methodLink own index arraycopyName).before args s = true) (hnat : (Cond.native arraycopyName).before args s = true) (hstat : (Cond.static arraycopyName).before args s = true) (hini : (Cond.initialized "java/lang/System").before args s = true)
    (hK : va_K D cl tys s) (hP : va_P D cl ws H) (hD : va_D A ws) (hS : va_S A s.heap H locs) {b0 n0 : Nat} {f : Nat → Int32} (hX : va_T .int b0 n0 (fun j => .int (f j)) A s s.heap) (q1 t1 : Nat) {c1 : ClassId} {n1 : Nat} {g : Nat → Int32} (ha1 : ws[q1]? = some (a, .inl (c1, n1, .inl g))) (ht1 : tys[t1]? = some (c1, .int))
    {sp dp n : Int32} (h1 : ¬ sp < 0) (h2 : ¬ dp < 0) (h3 : ¬ n < 0) (h4 : sp.toNatClampNeg + n.toNatClampNeg ≤ n0) (h5 : dp.toNatClampNeg + n.toNatClampNeg ≤ n1)
    (hframes : 1 ≤ R.frames) (hlocals : (rest.map fun v => v.category).sum + (nativeFrameWords "java/lang/System" "arraycopy" 5 + 11) ≤ R.locals) (hdg : decode cc pc = .ok (.invokestatic index, 3))
    (kk : ∀ (H1 : Heap) (locs1 : List Loc), va_P D cl (ws.set q1 (a, .inl (c1, n1, .inl (va_cpy f g sp.toNatClampNeg dp.toNatClampNeg n.toNatClampNeg)))) H1 → va_D A (ws.set q1 (a, .inl (c1, n1, .inl (va_cpy f g sp.toNatClampNeg dp.toNatClampNeg n.toNatClampNeg)))) → va_S A s.heap H1 locs1 → W p l e R s m args below meth c H1 locs1 cells slots Q (F0 m (pc + 3) ls rest)) : W p l e R s m args below meth c H locs cells slots Q (F0 m pc ls (.int n :: .int dp :: .ref a :: .int sp :: .ref b0 :: rest)) := by
  have nn : ∀ z : Int32, ¬ z < 0 → z.toInt = (z.toNatClampNeg : Int) := by
    intro z hz
    have hz0 : (0 : Int) ≤ z.toInt := by
      have := Int32.not_lt.mp hz
      simpa using Int32.le_iff_toInt_le.mp this
    show z.toInt = ((z.toInt.toNat : Nat) : Int)
    omega
  intro T hT X
  obtain ⟨scr, hs1, hs2, hs3, hs4, -, hs5, hs7⟩ := hX
  have hc0 : H[b0]? = some scr := by rw [hS.2.1 b0 (Array.getElem?_eq_some_iff.mp hs1).1 hs7]; exact hs1
  have hc1 : H[a]? = some (vp_cell c1 (n1, .inl g)) := hP q1 _ ha1
  obtain ⟨hs6, k0, hk0, cm0, hkk0⟩ := hs2
  obtain ⟨-, k1, hk1, cm1, hkk1⟩ := (hK.2 t1 _ ht1).1 n1 (fun j => .int (g j))
  obtain ⟨vm', X', step⟩ := X.arraycopy hexec hown hlink hnat hstat hini (src := b0) (dst := a) (cs := scr) (cd := vp_cell c1 (n1, .inl g)) (srcPos := sp) (destPos := dp) (n := n) (by rw [hT]; exact hc0) (by rw [hT]; exact hc1)
    hs6 (fun _ h => by cases h) hs3 (fun h => by cases h) hk0 hk1 hkk0 hkk1 (by simp [refKind]) h1 h2 h3
    (by rw [nn sp h1, nn n h3]; omega)
    (by rw [nn dp h2, nn n h3]; show ¬ _ > ((arrV c1 n1 (fun j => .int (g j))).slots.size : Int); rw [arrV_size]; omega)
    (fun vm₁ _ i hi => by
      have e : scr.slots.getD (sp.toNatClampNeg + i) .null = .int (f (sp.toNatClampNeg + i)) := by
        rw [Array.getD_eq_getD_getElem?, hs5 _ (by omega)]
        rfl
      refine ⟨?_, ?_⟩
      · rw [e]
        rfl
      · rw [e]
        exact trivial)
    (g := F0 m pc ls (.int n :: .int dp :: .ref a :: .int sp :: .ref b0 :: rest)) rfl (by rw [hml]) (rest := rest) rfl (by rw [hb]; exact hdg) hframes (by show 2 * 0 + _ + _ ≤ _; omega)
  have e1 : copied scr (vp_cell c1 (n1, .inl g)) sp dp n = vp_cell c1 (n1, .inl (va_cpy f g sp.toNatClampNeg dp.toNatClampNeg n.toNatClampNeg)) := va_copiedX (fun z => .int z) scr c1 f g hs5 h4
  rw [e1] at X' step
  have hl : a < H.size := (Array.getElem?_eq_some_iff.mp hc1).1
  have hheap : ((T.setVm vm').setCell a (vp_cell c1 (n1, .inl (va_cpy f g sp.toNatClampNeg dp.toNatClampNeg n.toNatClampNeg)))).heap = H.setIfInBounds a (vp_cell c1 (n1, .inl (va_cpy f g sp.toNatClampNeg dp.toNatClampNeg n.toNatClampNeg))) := by rw [← hT]; rfl
  have oq : ∀ q : Nat, q ≠ a → (H.setIfInBounds a (vp_cell c1 (n1, .inl (va_cpy f g sp.toNatClampNeg dp.toNatClampNeg n.toNatClampNeg))))[q]? = H[q]? := fun q hq => by simp [Array.getElem?_setIfInBounds, Ne.symm hq]
  obtain ⟨t, a1, b1⟩ := kk _ _ (hP.set hD ha1 (show (H.setIfInBounds a _)[a]? = some _ by simp [Array.getElem?_setIfInBounds, hl]) oq) (hD.set ha1) ⟨by simp; exact hS.1, fun q g1 g2 => by
      rw [oq q (fun e => g2 (by rw [e]; exact hD.2 q1 _ ha1))]
      exact hS.2.1 q g1 g2, fun q hq => by
      rcases List.mem_append.mp hq with h | h
      · exact hS.2.2 q h
      · obtain ⟨z, -, hz⟩ := List.mem_map.mp h
        rw [← hz]
        exact hD.2 q1 _ ha1⟩ _ hheap X'
  exact ⟨t, step t a1, b1⟩
end CPT

section MK
variable {p : Program} {l : Launch} {e : Env} {R : Room} {s : State} {m : MethodId} {args : Array Value} {below : List Frame} {meth : Method} {c : Code} {H : Heap} {locs : List Loc} {cells slots : Nat} {Q : State → Prop}
variable {cc : ByteArray} {pc : Nat} {ls : Array Slot} {rest st0 : List Value} {a : Array Value} {A : Nat → Prop} {D : va_G} {cT : Nat → ClassId} {ws : va_W}
theorem nw_i (hx : p.tables.exec = Jvm.exec) (hb : c.code = cc) (harr : (Cond.arrayClass .int).before args s = true) (hK : va_K D vwCl (ty4 cT) s) (hP : va_P D vwCl ws H) (hD : va_D A ws) (hS : va_S A s.heap H locs) (hA : ∀ q, s.heap.size ≤ q → A q)
    {n : Int32} (N : Nat) (hn : ¬ n < 0) (hN : n.toNatClampNeg = N) (hbytes : N * 4 ≤ 536870912) (hc : cells + 1 ≤ R.cells) (hs : slots + N ≤ R.slots) (hdg : decode cc pc = .ok (.newarray .int, 2))
    (kk : ∀ (q : Nat) (H1 : Heap), va_P D vwCl (ws ++ [(q, .inl (cT 0, N, .inl (fun _ => 0)))]) H1 → va_D A (ws ++ [(q, .inl (cT 0, N, .inl (fun _ => 0)))]) → va_S A s.heap H1 locs → W p l e R s m args below meth c H1 locs (cells + 1) (slots + N) Q (F0 m (pc + 2) ls (.ref q :: rest))) : W p l e R s m args below meth c H locs cells slots Q (F0 m pc ls (.int n :: rest)) := by
  refine va_newa (atype := .int) (a0 := (N, .inl (fun _ => 0))) hx hb harr rfl hK hP hD hS hA (fun cA => rfl) hn hN hbytes hc hs hdg (fun q cA H1 hK1 hP1 hD1 hS1 => ?_)
  have h1 : s.vm.findClass ("[" ++ FieldType.int.toString) = some cA := (hK1.2 4 (cA, .int) rfl).2
  have h2 : s.vm.findClass ("[" ++ FieldType.int.toString) = some (cT 0) := (hK.2 0 (cT 0, .int) rfl).2
  have e1 : cA = cT 0 := Option.some.inj (h1.symm.trans h2)
  subst e1
  exact kk q H1 hP1 hD1 hS1
theorem nw_z (hx : p.tables.exec = Jvm.exec) (hb : c.code = cc) (harr : (Cond.arrayClass .boolean).before args s = true) (hK : va_K D vwCl (ty4 cT) s) (hP : va_P D vwCl ws H) (hD : va_D A ws) (hS : va_S A s.heap H locs) (hA : ∀ q, s.heap.size ≤ q → A q)
    {n : Int32} (N : Nat) (hn : ¬ n < 0) (hN : n.toNatClampNeg = N) (hbytes : N * 1 ≤ 536870912) (hc : cells + 1 ≤ R.cells) (hs : slots + N ≤ R.slots) (hdg : decode cc pc = .ok (.newarray .boolean, 2))
    (kk : ∀ (q : Nat) (H1 : Heap), va_P D vwCl (ws ++ [(q, .inl (cT 1, N, .inl (fun _ => 0)))]) H1 → va_D A (ws ++ [(q, .inl (cT 1, N, .inl (fun _ => 0)))]) → va_S A s.heap H1 locs → W p l e R s m args below meth c H1 locs (cells + 1) (slots + N) Q (F0 m (pc + 2) ls (.ref q :: rest))) : W p l e R s m args below meth c H locs cells slots Q (F0 m pc ls (.int n :: rest)) := by
  refine va_newa (atype := .boolean) (a0 := (N, .inl (fun _ => 0))) hx hb harr rfl hK hP hD hS hA (fun cA => rfl) hn hN hbytes hc hs hdg (fun q cA H1 hK1 hP1 hD1 hS1 => ?_)
  have h1 : s.vm.findClass ("[" ++ FieldType.boolean.toString) = some cA := (hK1.2 4 (cA, .boolean) rfl).2
  have h2 : s.vm.findClass ("[" ++ FieldType.boolean.toString) = some (cT 1) := (hK.2 1 (cT 1, .boolean) rfl).2
  have e1 : cA = cT 1 := Option.some.inj (h1.symm.trans h2)
  subst e1
  exact kk q H1 hP1 hD1 hS1
theorem nw_q {own : String} {index : Nat} (hx : p.tables.exec = Jvm.exec) (hb : c.code = cc) (hown : s.vm.findClass own = some m.cls) (hcl : (Cond.classLink own index "BallastTrack$State").before args s = true) (hO : va_AO "BallastTrack$State" s) (hK : va_K D vwCl (ty4 cT) s) (hP : va_P D vwCl ws H) (hD : va_D A ws) (hS : va_S A s.heap H locs) (hA : ∀ q, s.heap.size ≤ q → A q)
    {n : Int32} (N : Nat) (hn : ¬ n < 0) (hN : n.toNatClampNeg = N) (hbytes : N * 4 ≤ 536870912) (hc : cells + 1 ≤ R.cells) (hs : slots + N ≤ R.slots) (hdg : decode cc pc = .ok (.anewarray index, 3))
    (kk : ∀ (q : Nat) (H1 : Heap), va_P D vwCl (ws ++ [(q, .inl (cT 3, N, .inr (.inr (.inr (.inr (fun _ => none))))))]) H1 → va_D A (ws ++ [(q, .inl (cT 3, N, .inr (.inr (.inr (.inr (fun _ => none))))))]) → va_S A s.heap H1 locs → W p l e R s m args below meth c H1 locs (cells + 1) (slots + N) Q (F0 m (pc + 3) ls (.ref q :: rest))) : W p l e R s m args below meth c H locs cells slots Q (F0 m pc ls (.int n :: rest)) := by
  refine va_newq hx hb hown hcl hO hK hP hD hS hA hn hN hbytes hc hs hdg (fun q cA H1 hK1 hP1 hD1 hS1 => ?_)
  obtain ⟨-, -, -, -, -, h1⟩ := (hK1.2 4 (cA, .object "BallastTrack$State") rfl).2
  obtain ⟨-, -, -, -, -, h2⟩ := (hK.2 3 (cT 3, .object "BallastTrack$State") rfl).2
  have e1 : cA = cT 3 := Option.some.inj (h1.symm.trans h2)
  subst e1
  exact kk q H1 hP1 hD1 hS1
def PREA (D : va_G) (cT : Nat → ClassId) (sz : Nat) (W : va_W) (U : State) : Prop := PRE D cT sz W U ∧ va_AO "BallastTrack$State" U
theorem PREA_blind {av : List Value} {D : va_G} {cT : Nat → ClassId} {sz : Nat} {W : va_W} : FrameBlind (va_Pc av (PREA D cT sz W)) := fun a U g mk q => by
  obtain ⟨q0, q1, q2⟩ := q
  have h := PRE_blind (av := av) (D := D) (cT := cT) (sz := sz) (W := W) a U g mk ⟨q0, q1⟩
  exact ⟨h.1, h.2, va_AO.moved (u := U) (U := U.calling g mk a) (Vm.Alike.refl U.vm) q2⟩
/-- one new object, the world's last cell, on its way to its constructor -/
theorem PRE_new {av : List Value} {X : va_W} {q : Nat} {e0 : va_E} (hP : va_P D vwCl (X ++ [(q, e0)]) H) (hD : va_D A (X ++ [(q, e0)])) (hA : ∀ q, s.heap.size ≤ q → A q) (hS : va_S A s.heap H locs) (hK : va_K D vwCl (ty4 cT) s) (hN : NWs s) (hZ : STs A s s.heap) :
    ∀ U : State, U.heap = H → s.WarmedH U.vm → va_Pc av (PRE D cT H.size [(q, e0)]) av.toArray U := by
  have h := PRE_ok (av := av) (cT := cT) (B := [X, [(q, e0)]]) (A := A) (D := D) (H := H) (locs := locs) (s := s) [1] (by decide) (by simpa using hP) (by simpa using hD) hA hS hK hN hZ
  exact h
theorem PREA_new {av : List Value} {X : va_W} {q : Nat} {e0 : va_E} (hO : va_AO "BallastTrack$State" s) (hP : va_P D vwCl (X ++ [(q, e0)]) H) (hD : va_D A (X ++ [(q, e0)])) (hA : ∀ q, s.heap.size ≤ q → A q) (hS : va_S A s.heap H locs) (hK : va_K D vwCl (ty4 cT) s) (hN : NWs s) (hZ : STs A s s.heap) :
    ∀ U : State, U.heap = H → s.WarmedH U.vm → va_Pc av (PREA D cT H.size [(q, e0)]) av.toArray U := fun U hU hW =>
  have h := PRE_new (av := av) (cT := cT) hP hD hA hS hK hN hZ U hU hW
  ⟨h.1, h.2, va_AO.moved hW.alike hO⟩
abbrev QC (D : va_G) (q : Nat) (Wn : (Nat → Nat) → va_W) (A : Nat → Prop) : Array Value → State → Outcome → State → Prop := va_Qv (fun g : Nat → Nat => g 0 = q) (fun (g : Nat → Nat) (t : State) => va_P D vwCl (Wn g) t.heap ∧ va_D A (Wn g)) A
theorem cl_c {X : va_W} {q mc ms : Nat} {e0 : va_E} {Wn : (Nat → Nat) → va_W} (hP : va_P D vwCl (X ++ [(q, e0)]) H) (hD : va_D A (X ++ [(q, e0)])) (hA : ∀ q, s.heap.size ≤ q → A q) (hS : va_S A s.heap H locs)
    (hr : va_Run p l e R s m args below meth c H locs cells slots mc ms (F0 m pc ls st0) rest (QC D q Wn (va_A [(q, e0)] H.size) a) (va_A [(q, e0)] H.size))
    (k : ∀ (g : Nat → Nat) (H1 : Heap) (locs1 : List Loc), g 0 = q → va_P D vwCl (X ++ Wn g) H1 → va_D A (X ++ Wn g) → va_S A s.heap H1 locs1 → W p l e R s m args below meth c H1 locs1 (cells + mc) (slots + ms) Q (F0 m (pc + 3) ls rest)) : W p l e R s m args below meth c H locs cells slots Q (F0 m pc ls st0) := by
  have hF : ∀ z, va_A [(q, e0)] H.size z → A z := fun z h => pick_A (B := [X, [(q, e0)]]) (sz := H.size) (by simpa using hD) (fun z hz => hA z (Nat.le_trans hS.1 hz)) [1] h
  refine va_callv hr hS (fun z _ h => hF z h) hF (fun g t H1 locs1 ht hvm hw hB hz hk hS1 => ?_)
  obtain ⟨hP1, hD1⟩ := hB
  rw [ht] at hP1
  have hPX : va_P D vwCl X H := va_P_mem.mpr (fun z hz => va_P_mem.mp hP z (List.mem_append_left _ hz))
  have hDX : va_D A X := va_D_iff.mpr (by
    have h := va_D_iff.mp hD
    unfold adr at h ⊢
    rw [List.map_append, List.nodup_append] at h
    exact ⟨h.1.1, fun a ha => h.2 a (List.mem_append_left _ ha)⟩)
  have apart : ∀ z ∈ X, ¬ va_A [(q, e0)] H.size z.1 := by
    intro z hz h
    rcases va_A_mem.mp h with h | h
    · have h9 := va_D_iff.mp hD
      unfold adr at h9 h
      rw [List.map_append, List.nodup_append] at h9
      exact h9.1.2.2 _ (List.mem_map.mpr ⟨z, hz, rfl⟩) _ h rfl
    · exact absurd ((va_P_mem.mp hPX z hz).lt) (by omega)
  refine k g H1 locs1 hw (va_P.app (va_P_mem.mpr (fun z hz => (va_P_mem.mp hPX z hz).kept (hk z.1 (va_P_mem.mp hPX z hz).lt (apart z hz)))) hP1) (va_D.app hDX (hD1.weaken (fun _ z _ h => hF z.1 h)) (fun i j x y hx hy hxy => ?_)) hS1
  have hy2 := hD1.2 j y hy
  rw [← hxy] at hy2
  exact apart x (List.mem_of_getElem? hx) hy2
theorem en_c {cc : ByteArray} {q : Nat} {Wn : (Nat → Nat) → va_W} (g : Nat → Nat) (hg : g 0 = q) (hx : p.tables.exec = Jvm.exec) (hb : c.code = cc) (hr : meth.sig.returnType = none) (hP : va_P D vwCl (Wn g) H) (hD : va_D A (Wn g)) (hS : va_S A s.heap H locs) (hlocks : meth.locks = false) (hdg : decode cc pc = .ok (.return_, 1)) : W p l e R s m args below meth c H locs cells slots (MQ below (QC D q Wn A) args s cells slots A) (F0 m pc ls []) :=
  W.vret hx hb hr (fun t ht hW => ⟨⟨g, rfl, hg, by show va_P D vwCl (Wn g) t.heap; rw [ht]; exact hP, hD⟩, hS.F ht⟩) hS.2.2 hdg hlocks
end MK
theorem refs_to {D : va_G} {cl : List vw_C} {A : Nat → Prop} {ws : va_W} {H : Heap} {k a n : Nat} {cA : ClassId} {f f' : Nat → Option Nat} (hP : va_P D cl ws H) (hD : va_D A ws) (hk : ws[k]? = some (a, .inl (cA, n, .inr (.inr (.inr (.inr f)))))) (h : ∀ j, j < n → f j = f' j) : va_P D cl (ws.set k (a, .inl (cA, n, .inr (.inr (.inr (.inr f')))))) H ∧ va_D A (ws.set k (a, .inl (cA, n, .inr (.inr (.inr (.inr f')))))) := by
  refine ⟨hP.set hD hk ?_ (fun _ _ => rfl), hD.set hk⟩
  have h1 : H[a]? = some (vp_cell cA (n, .inr (.inr (.inr (.inr f))))) := hP k _ hk
  show H[a]? = some (vp_cell cA (n, .inr (.inr (.inr (.inr f')))))
  rw [h1, vp_cell_q, vp_cell_q]
  unfold arrV
  congr 2
  congr 1
  funext j
  show va_rf (f j.val) = va_rf (f' j.val)
  rw [h j.val j.isLt]
def nil0 : Nat → Int32 := fun _ => 0
def i_S : TS := (40, 0, va_cpy tF nil0 (0 : Int32).toNatClampNeg (0 : Int32).toNatClampNeg (8 : Int32).toNatClampNeg, nil0, nil0, nil0, nil0, nil0, nil0)
def i_V : TV := (nil0, nil0, nil0, 0, 0, 0, 0)
def i_X : TX := (nil0, 0, 0, 0)
def i_H : TH := (0, 0)
theorem iw_X1_init_X1 : ∀ w ∈ u_ws RX1 TX1 9, w ∈ wsX1_init := by decide +kernel
abbrev rm_X1_init : Room := { frames := 1, cells := 7, slots := 279, locals := 60 }
set_option maxHeartbeats 8000000 in
set_option maxRecDepth 100000 in
theorem c_X1_init (l : Launch) (D : va_G) (cT : Nat → ClassId) (h0 sz : Nat) : Met l yX1_init wsX1_init rm_X1_init (va_Pc [.ref h0] (PRE D cT sz [(h0, .inr (1, [.int 0, .int 0, .null, .null, .null, .null, .null, .null, .null]))])) (QC D h0 (fun g => wS cT g 0 i_S) (va_A [(h0, .inr (1, [.int 0, .int 0, .null, .null, .null, .null, .null, .null, .null]))] sz)) 7 279 (va_A [(h0, .inr (1, [.int 0, .int 0, .null, .null, .null, .null, .null, .null, .null]))] sz) := by
  refine Met.ofW (cc := cX1_init) (maxL := 1) (ret := none) (by decide) rfl ?_
  intro p e s m args below meth c s₁ B0 hml hv
  obtain ⟨hav, hsz, hP, hK, hD, hN, hZ⟩ := hv
  have hx := B0.exec
  have hb := B0.bytes
  have hr := B0.returns
  have hts := atoms_spec (ws := wsX1_init) B0.pre
  have hown : s.vm.findClass RX1 = some m.cls := findClass_of_methodNamed B0.named
  have hlocks := B0.notSynchronized
  have hin : meth.name = "<init>" := (name_of_methodNamed B0.named B0.method).1
  subst hsz
  have hD := hD.self (sz := s.heap.size)
  have hA : ∀ q : Nat, s.heap.size ≤ q → va_A [(h0, .inr (1, [.int 0, .int 0, .null, .null, .null, .null, .null, .null, .null]))] s.heap.size q := fun q h => Or.inr h
  generalize va_A [(h0, .inr (1, [.int 0, .int 0, .null, .null, .null, .null, .null, .null, .null]))] s.heap.size = A at hD hZ hA ⊢
  have hS : va_S A s.heap s.heap [] := va_S.rf
  have hl := lv_entry ([.ref h0]) (n := 1) (Nat.le_of_ble_eq_true rfl)
  rw [hav]
  rw [lg_entry_eq]
  generalize (lg_sl ([.ref h0]) ++ List.replicate (1 - (lg_sl ([.ref h0])).length) Slot.unset).toArray = ls at hl ⊢
  have hl : lv_has ls 1 [(0, .ref h0)] := hl
  rw [← hav]
  generalize hQ : MQ below _ _ _ _ _ _ = Q
  show W p l e rm_X1_init s m args below meth c s.heap [] 0 0 Q (F0 m 0 ls [])
  refine lv_aload_n hx hb dX1_init_0 rfl (lv_at hl 0 rfl) ?_
  refine W.objInit hx hb hown (hts (.methodLink RX1 3 objectInit) (List.mem_of_getElem? (i := 1) rfl)) (hts (.instanceMethod objectInit) (List.mem_of_getElem? (i := 2) rfl)) (hts _ (List.mem_of_getElem? (i := 3) rfl)) rfl (by rw [hml]; exact hl.1) rfl dX1_init_1 (Nat.le_of_ble_eq_true rfl) (Nat.le_of_ble_eq_true rfl) ?_
  refine W.eq (g2 := F0 m 4 ls []) rfl ?_
  refine lv_aload_n hx hb dX1_init_4 rfl (lv_at hl 0 rfl) ?_
  refine lv_bipush (v := 40) hx hb dX1_init_5 (by decide) ?_
  refine va_put (ci := 1) (v := .int ((40 : Int32))) (ty := .int) (C := RX1) (T := TX1) (N := 9) hx hb hts iw_X1_init_X1 tyX1 tyX1_ok nmX1 hown hK hP hD hS 0 rfl rfl 0 (by decide) (hts (.fieldLink RX1 9 "BallastTrack$State" "sleepers" "I") (List.mem_of_getElem? (i := 4) rfl)) (fun _ h9 => h9) rfl (by decide +kernel) rfl rfl (Nat.le_of_ble_eq_true rfl) dX1_init_7 (fun H locs hP hD hS => ?_)
  replace hP : va_P D vwCl [(h0, .inr (1, [.int ((40 : Int32)), .int 0, .null, .null, .null, .null, .null, .null, .null]))] H := hP
  replace hD : va_D A [(h0, .inr (1, [.int ((40 : Int32)), .int 0, .null, .null, .null, .null, .null, .null, .null]))] := hD
  refine lv_aload_n hx hb dX1_init_10 rfl (lv_at hl 0 rfl) ?_
  refine lv_iconst (v := 0) hx hb dX1_init_11 (by decide) ?_
  refine va_put (ci := 1) (v := .int ((0 : Int32))) (ty := .int) (C := RX1) (T := TX1) (N := 9) hx hb hts iw_X1_init_X1 tyX1 tyX1_ok nmX1 hown hK hP hD hS 0 rfl rfl 1 (by decide) (hts (.fieldLink RX1 15 "BallastTrack$State" "jobs" "I") (List.mem_of_getElem? (i := 5) rfl)) (fun _ h9 => h9) rfl (by decide +kernel) rfl rfl (Nat.le_of_ble_eq_true rfl) dX1_init_12 (fun H locs hP hD hS => ?_)
  replace hP : va_P D vwCl [(h0, .inr (1, [.int ((40 : Int32)), .int ((0 : Int32)), .null, .null, .null, .null, .null, .null, .null]))] H := hP
  replace hD : va_D A [(h0, .inr (1, [.int ((40 : Int32)), .int ((0 : Int32)), .null, .null, .null, .null, .null, .null, .null]))] := hD
  refine lv_aload_n hx hb dX1_init_15 rfl (lv_at hl 0 rfl) ?_
  refine lv_bipush (v := 8) hx hb dX1_init_16 (by decide) ?_
  refine nw_i hx hb (hts (.arrayClass .int) (List.mem_of_getElem? (i := 6) rfl)) hK hP hD hS hA 8 (by decide) (by decide) (Nat.le_of_ble_eq_true rfl) (Nat.le_of_ble_eq_true rfl) (Nat.le_of_ble_eq_true rfl) dX1_init_18 (fun q18 H hP hD hS => ?_)
  replace hP : va_P D vwCl ([(h0, .inr (1, [.int ((40 : Int32)), .int ((0 : Int32)), .null, .null, .null, .null, .null, .null, .null]))] ++ [(q18, .inl (cT 0, 8, .inl nil0))]) H := hP
  replace hD : va_D A ([(h0, .inr (1, [.int ((40 : Int32)), .int ((0 : Int32)), .null, .null, .null, .null, .null, .null, .null]))] ++ [(q18, .inl (cT 0, 8, .inl nil0))]) := hD
  refine W.widen (k := 1) (n := 8) (Nat.le_of_ble_eq_true rfl) (Nat.le_of_ble_eq_true rfl) ?_
  refine va_putF (ci := 1) (v := .ref q18) (ty := .array .int) (C := RX1) (T := TX1) (N := 9) hx hb hts iw_X1_init_X1 tyX1 tyX1_ok nmX1 hown hK hP hD hS 0 rfl rfl 2 (by decide) (hts (.fieldLink RX1 18 "BallastTrack$State" "numbers" "[I") (List.mem_of_getElem? (i := 7) rfl)) (fun _ h9 => h9) rfl hin rfl (by decide +kernel) rfl rfl (Nat.le_of_ble_eq_true rfl) dX1_init_20 (fun H locs hP hD hS => ?_)
  replace hP : va_P D vwCl ([(h0, .inr (1, [.int ((40 : Int32)), .int ((0 : Int32)), .ref q18, .null, .null, .null, .null, .null, .null]))] ++ [(q18, .inl (cT 0, 8, .inl nil0))]) H := hP
  replace hD : va_D A ([(h0, .inr (1, [.int ((40 : Int32)), .int ((0 : Int32)), .ref q18, .null, .null, .null, .null, .null, .null]))] ++ [(q18, .inl (cT 0, 8, .inl nil0))]) := hD
  refine lv_aload_n hx hb dX1_init_23 rfl (lv_at hl 0 rfl) ?_
  refine lv_bipush (v := 60) hx hb dX1_init_24 (by decide) ?_
  refine nw_i hx hb (hts (.arrayClass .int) (List.mem_of_getElem? (i := 6) rfl)) hK hP hD hS hA 60 (by decide) (by decide) (Nat.le_of_ble_eq_true rfl) (Nat.le_of_ble_eq_true rfl) (Nat.le_of_ble_eq_true rfl) dX1_init_26 (fun q26 H hP hD hS => ?_)
  replace hP : va_P D vwCl (([(h0, .inr (1, [.int ((40 : Int32)), .int ((0 : Int32)), .ref q18, .null, .null, .null, .null, .null, .null]))] ++ [(q18, .inl (cT 0, 8, .inl nil0))]) ++ [(q26, .inl (cT 0, 60, .inl nil0))]) H := hP
  replace hD : va_D A (([(h0, .inr (1, [.int ((40 : Int32)), .int ((0 : Int32)), .ref q18, .null, .null, .null, .null, .null, .null]))] ++ [(q18, .inl (cT 0, 8, .inl nil0))]) ++ [(q26, .inl (cT 0, 60, .inl nil0))]) := hD
  refine W.widen (k := 2) (n := 68) (Nat.le_of_ble_eq_true rfl) (Nat.le_of_ble_eq_true rfl) ?_
  refine va_putF (ci := 1) (v := .ref q26) (ty := .array .int) (C := RX1) (T := TX1) (N := 9) hx hb hts iw_X1_init_X1 tyX1 tyX1_ok nmX1 hown hK hP hD hS 0 rfl rfl 3 (by decide) (hts (.fieldLink RX1 22 "BallastTrack$State" "levels" "[I") (List.mem_of_getElem? (i := 8) rfl)) (fun _ h9 => h9) rfl hin rfl (by decide +kernel) rfl rfl (Nat.le_of_ble_eq_true rfl) dX1_init_28 (fun H locs hP hD hS => ?_)
  replace hP : va_P D vwCl (([(h0, .inr (1, [.int ((40 : Int32)), .int ((0 : Int32)), .ref q18, .ref q26, .null, .null, .null, .null, .null]))] ++ [(q18, .inl (cT 0, 8, .inl nil0))]) ++ [(q26, .inl (cT 0, 60, .inl nil0))]) H := hP
  replace hD : va_D A (([(h0, .inr (1, [.int ((40 : Int32)), .int ((0 : Int32)), .ref q18, .ref q26, .null, .null, .null, .null, .null]))] ++ [(q18, .inl (cT 0, 8, .inl nil0))]) ++ [(q26, .inl (cT 0, 60, .inl nil0))]) := hD
  refine lv_aload_n hx hb dX1_init_31 rfl (lv_at hl 0 rfl) ?_
  refine lv_bipush (v := 60) hx hb dX1_init_32 (by decide) ?_
  refine nw_i hx hb (hts (.arrayClass .int) (List.mem_of_getElem? (i := 6) rfl)) hK hP hD hS hA 60 (by decide) (by decide) (Nat.le_of_ble_eq_true rfl) (Nat.le_of_ble_eq_true rfl) (Nat.le_of_ble_eq_true rfl) dX1_init_34 (fun q34 H hP hD hS => ?_)
  replace hP : va_P D vwCl ((([(h0, .inr (1, [.int ((40 : Int32)), .int ((0 : Int32)), .ref q18, .ref q26, .null, .null, .null, .null, .null]))] ++ [(q18, .inl (cT 0, 8, .inl nil0))]) ++ [(q26, .inl (cT 0, 60, .inl nil0))]) ++ [(q34, .inl (cT 0, 60, .inl nil0))]) H := hP
  replace hD : va_D A ((([(h0, .inr (1, [.int ((40 : Int32)), .int ((0 : Int32)), .ref q18, .ref q26, .null, .null, .null, .null, .null]))] ++ [(q18, .inl (cT 0, 8, .inl nil0))]) ++ [(q26, .inl (cT 0, 60, .inl nil0))]) ++ [(q34, .inl (cT 0, 60, .inl nil0))]) := hD
  refine W.widen (k := 3) (n := 128) (Nat.le_of_ble_eq_true rfl) (Nat.le_of_ble_eq_true rfl) ?_
  refine va_putF (ci := 1) (v := .ref q34) (ty := .array .int) (C := RX1) (T := TX1) (N := 9) hx hb hts iw_X1_init_X1 tyX1 tyX1_ok nmX1 hown hK hP hD hS 0 rfl rfl 4 (by decide) (hts (.fieldLink RX1 25 "BallastTrack$State" "foulings" "[I") (List.mem_of_getElem? (i := 9) rfl)) (fun _ h9 => h9) rfl hin rfl (by decide +kernel) rfl rfl (Nat.le_of_ble_eq_true rfl) dX1_init_36 (fun H locs hP hD hS => ?_)
  replace hP : va_P D vwCl ((([(h0, .inr (1, [.int ((40 : Int32)), .int ((0 : Int32)), .ref q18, .ref q26, .ref q34, .null, .null, .null, .null]))] ++ [(q18, .inl (cT 0, 8, .inl nil0))]) ++ [(q26, .inl (cT 0, 60, .inl nil0))]) ++ [(q34, .inl (cT 0, 60, .inl nil0))]) H := hP
  replace hD : va_D A ((([(h0, .inr (1, [.int ((40 : Int32)), .int ((0 : Int32)), .ref q18, .ref q26, .ref q34, .null, .null, .null, .null]))] ++ [(q18, .inl (cT 0, 8, .inl nil0))]) ++ [(q26, .inl (cT 0, 60, .inl nil0))]) ++ [(q34, .inl (cT 0, 60, .inl nil0))]) := hD
  refine lv_aload_n hx hb dX1_init_39 rfl (lv_at hl 0 rfl) ?_
  refine lv_bipush (v := 60) hx hb dX1_init_40 (by decide) ?_
  refine nw_i hx hb (hts (.arrayClass .int) (List.mem_of_getElem? (i := 6) rfl)) hK hP hD hS hA 60 (by decide) (by decide) (Nat.le_of_ble_eq_true rfl) (Nat.le_of_ble_eq_true rfl) (Nat.le_of_ble_eq_true rfl) dX1_init_42 (fun q42 H hP hD hS => ?_)
  replace hP : va_P D vwCl (((([(h0, .inr (1, [.int ((40 : Int32)), .int ((0 : Int32)), .ref q18, .ref q26, .ref q34, .null, .null, .null, .null]))] ++ [(q18, .inl (cT 0, 8, .inl nil0))]) ++ [(q26, .inl (cT 0, 60, .inl nil0))]) ++ [(q34, .inl (cT 0, 60, .inl nil0))]) ++ [(q42, .inl (cT 0, 60, .inl nil0))]) H := hP
  replace hD : va_D A (((([(h0, .inr (1, [.int ((40 : Int32)), .int ((0 : Int32)), .ref q18, .ref q26, .ref q34, .null, .null, .null, .null]))] ++ [(q18, .inl (cT 0, 8, .inl nil0))]) ++ [(q26, .inl (cT 0, 60, .inl nil0))]) ++ [(q34, .inl (cT 0, 60, .inl nil0))]) ++ [(q42, .inl (cT 0, 60, .inl nil0))]) := hD
  refine W.widen (k := 4) (n := 188) (Nat.le_of_ble_eq_true rfl) (Nat.le_of_ble_eq_true rfl) ?_
  refine va_putF (ci := 1) (v := .ref q42) (ty := .array .int) (C := RX1) (T := TX1) (N := 9) hx hb hts iw_X1_init_X1 tyX1 tyX1_ok nmX1 hown hK hP hD hS 0 rfl rfl 5 (by decide) (hts (.fieldLink RX1 28 "BallastTrack$State" "settled" "[I") (List.mem_of_getElem? (i := 10) rfl)) (fun _ h9 => h9) rfl hin rfl (by decide +kernel) rfl rfl (Nat.le_of_ble_eq_true rfl) dX1_init_44 (fun H locs hP hD hS => ?_)
  replace hP : va_P D vwCl (((([(h0, .inr (1, [.int ((40 : Int32)), .int ((0 : Int32)), .ref q18, .ref q26, .ref q34, .ref q42, .null, .null, .null]))] ++ [(q18, .inl (cT 0, 8, .inl nil0))]) ++ [(q26, .inl (cT 0, 60, .inl nil0))]) ++ [(q34, .inl (cT 0, 60, .inl nil0))]) ++ [(q42, .inl (cT 0, 60, .inl nil0))]) H := hP
  replace hD : va_D A (((([(h0, .inr (1, [.int ((40 : Int32)), .int ((0 : Int32)), .ref q18, .ref q26, .ref q34, .ref q42, .null, .null, .null]))] ++ [(q18, .inl (cT 0, 8, .inl nil0))]) ++ [(q26, .inl (cT 0, 60, .inl nil0))]) ++ [(q34, .inl (cT 0, 60, .inl nil0))]) ++ [(q42, .inl (cT 0, 60, .inl nil0))]) := hD
  refine lv_aload_n hx hb dX1_init_47 rfl (lv_at hl 0 rfl) ?_
  refine lv_bipush (v := 60) hx hb dX1_init_48 (by decide) ?_
  refine nw_i hx hb (hts (.arrayClass .int) (List.mem_of_getElem? (i := 6) rfl)) hK hP hD hS hA 60 (by decide) (by decide) (Nat.le_of_ble_eq_true rfl) (Nat.le_of_ble_eq_true rfl) (Nat.le_of_ble_eq_true rfl) dX1_init_50 (fun q50 H hP hD hS => ?_)
  replace hP : va_P D vwCl ((((([(h0, .inr (1, [.int ((40 : Int32)), .int ((0 : Int32)), .ref q18, .ref q26, .ref q34, .ref q42, .null, .null, .null]))] ++ [(q18, .inl (cT 0, 8, .inl nil0))]) ++ [(q26, .inl (cT 0, 60, .inl nil0))]) ++ [(q34, .inl (cT 0, 60, .inl nil0))]) ++ [(q42, .inl (cT 0, 60, .inl nil0))]) ++ [(q50, .inl (cT 0, 60, .inl nil0))]) H := hP
  replace hD : va_D A ((((([(h0, .inr (1, [.int ((40 : Int32)), .int ((0 : Int32)), .ref q18, .ref q26, .ref q34, .ref q42, .null, .null, .null]))] ++ [(q18, .inl (cT 0, 8, .inl nil0))]) ++ [(q26, .inl (cT 0, 60, .inl nil0))]) ++ [(q34, .inl (cT 0, 60, .inl nil0))]) ++ [(q42, .inl (cT 0, 60, .inl nil0))]) ++ [(q50, .inl (cT 0, 60, .inl nil0))]) := hD
  refine W.widen (k := 5) (n := 248) (Nat.le_of_ble_eq_true rfl) (Nat.le_of_ble_eq_true rfl) ?_
  refine va_putF (ci := 1) (v := .ref q50) (ty := .array .int) (C := RX1) (T := TX1) (N := 9) hx hb hts iw_X1_init_X1 tyX1 tyX1_ok nmX1 hown hK hP hD hS 0 rfl rfl 6 (by decide) (hts (.fieldLink RX1 31 "BallastTrack$State" "lifted" "[I") (List.mem_of_getElem? (i := 11) rfl)) (fun _ h9 => h9) rfl hin rfl (by decide +kernel) rfl rfl (Nat.le_of_ble_eq_true rfl) dX1_init_52 (fun H locs hP hD hS => ?_)
  replace hP : va_P D vwCl ((((([(h0, .inr (1, [.int ((40 : Int32)), .int ((0 : Int32)), .ref q18, .ref q26, .ref q34, .ref q42, .ref q50, .null, .null]))] ++ [(q18, .inl (cT 0, 8, .inl nil0))]) ++ [(q26, .inl (cT 0, 60, .inl nil0))]) ++ [(q34, .inl (cT 0, 60, .inl nil0))]) ++ [(q42, .inl (cT 0, 60, .inl nil0))]) ++ [(q50, .inl (cT 0, 60, .inl nil0))]) H := hP
  replace hD : va_D A ((((([(h0, .inr (1, [.int ((40 : Int32)), .int ((0 : Int32)), .ref q18, .ref q26, .ref q34, .ref q42, .ref q50, .null, .null]))] ++ [(q18, .inl (cT 0, 8, .inl nil0))]) ++ [(q26, .inl (cT 0, 60, .inl nil0))]) ++ [(q34, .inl (cT 0, 60, .inl nil0))]) ++ [(q42, .inl (cT 0, 60, .inl nil0))]) ++ [(q50, .inl (cT 0, 60, .inl nil0))]) := hD
  refine lv_aload_n hx hb dX1_init_55 rfl (lv_at hl 0 rfl) ?_
  refine lv_bipush (v := 24) hx hb dX1_init_56 (by decide) ?_
  refine nw_i hx hb (hts (.arrayClass .int) (List.mem_of_getElem? (i := 6) rfl)) hK hP hD hS hA 24 (by decide) (by decide) (Nat.le_of_ble_eq_true rfl) (Nat.le_of_ble_eq_true rfl) (Nat.le_of_ble_eq_true rfl) dX1_init_58 (fun q58 H hP hD hS => ?_)
  replace hP : va_P D vwCl (((((([(h0, .inr (1, [.int ((40 : Int32)), .int ((0 : Int32)), .ref q18, .ref q26, .ref q34, .ref q42, .ref q50, .null, .null]))] ++ [(q18, .inl (cT 0, 8, .inl nil0))]) ++ [(q26, .inl (cT 0, 60, .inl nil0))]) ++ [(q34, .inl (cT 0, 60, .inl nil0))]) ++ [(q42, .inl (cT 0, 60, .inl nil0))]) ++ [(q50, .inl (cT 0, 60, .inl nil0))]) ++ [(q58, .inl (cT 0, 24, .inl nil0))]) H := hP
  replace hD : va_D A (((((([(h0, .inr (1, [.int ((40 : Int32)), .int ((0 : Int32)), .ref q18, .ref q26, .ref q34, .ref q42, .ref q50, .null, .null]))] ++ [(q18, .inl (cT 0, 8, .inl nil0))]) ++ [(q26, .inl (cT 0, 60, .inl nil0))]) ++ [(q34, .inl (cT 0, 60, .inl nil0))]) ++ [(q42, .inl (cT 0, 60, .inl nil0))]) ++ [(q50, .inl (cT 0, 60, .inl nil0))]) ++ [(q58, .inl (cT 0, 24, .inl nil0))]) := hD
  refine W.widen (k := 6) (n := 272) (Nat.le_of_ble_eq_true rfl) (Nat.le_of_ble_eq_true rfl) ?_
  refine va_putF (ci := 1) (v := .ref q58) (ty := .array .int) (C := RX1) (T := TX1) (N := 9) hx hb hts iw_X1_init_X1 tyX1 tyX1_ok nmX1 hown hK hP hD hS 0 rfl rfl 7 (by decide) (hts (.fieldLink RX1 34 "BallastTrack$State" "jobRows" "[I") (List.mem_of_getElem? (i := 12) rfl)) (fun _ h9 => h9) rfl hin rfl (by decide +kernel) rfl rfl (Nat.le_of_ble_eq_true rfl) dX1_init_60 (fun H locs hP hD hS => ?_)
  replace hP : va_P D vwCl (((((([(h0, .inr (1, [.int ((40 : Int32)), .int ((0 : Int32)), .ref q18, .ref q26, .ref q34, .ref q42, .ref q50, .ref q58, .null]))] ++ [(q18, .inl (cT 0, 8, .inl nil0))]) ++ [(q26, .inl (cT 0, 60, .inl nil0))]) ++ [(q34, .inl (cT 0, 60, .inl nil0))]) ++ [(q42, .inl (cT 0, 60, .inl nil0))]) ++ [(q50, .inl (cT 0, 60, .inl nil0))]) ++ [(q58, .inl (cT 0, 24, .inl nil0))]) H := hP
  replace hD : va_D A (((((([(h0, .inr (1, [.int ((40 : Int32)), .int ((0 : Int32)), .ref q18, .ref q26, .ref q34, .ref q42, .ref q50, .ref q58, .null]))] ++ [(q18, .inl (cT 0, 8, .inl nil0))]) ++ [(q26, .inl (cT 0, 60, .inl nil0))]) ++ [(q34, .inl (cT 0, 60, .inl nil0))]) ++ [(q42, .inl (cT 0, 60, .inl nil0))]) ++ [(q50, .inl (cT 0, 60, .inl nil0))]) ++ [(q58, .inl (cT 0, 24, .inl nil0))]) := hD
  refine lv_aload_n hx hb dX1_init_63 rfl (lv_at hl 0 rfl) ?_
  refine lv_bipush (v := 7) hx hb dX1_init_64 (by decide) ?_
  refine nw_i hx hb (hts (.arrayClass .int) (List.mem_of_getElem? (i := 6) rfl)) hK hP hD hS hA 7 (by decide) (by decide) (Nat.le_of_ble_eq_true rfl) (Nat.le_of_ble_eq_true rfl) (Nat.le_of_ble_eq_true rfl) dX1_init_66 (fun q66 H hP hD hS => ?_)
  replace hP : va_P D vwCl ((((((([(h0, .inr (1, [.int ((40 : Int32)), .int ((0 : Int32)), .ref q18, .ref q26, .ref q34, .ref q42, .ref q50, .ref q58, .null]))] ++ [(q18, .inl (cT 0, 8, .inl nil0))]) ++ [(q26, .inl (cT 0, 60, .inl nil0))]) ++ [(q34, .inl (cT 0, 60, .inl nil0))]) ++ [(q42, .inl (cT 0, 60, .inl nil0))]) ++ [(q50, .inl (cT 0, 60, .inl nil0))]) ++ [(q58, .inl (cT 0, 24, .inl nil0))]) ++ [(q66, .inl (cT 0, 7, .inl nil0))]) H := hP
  replace hD : va_D A ((((((([(h0, .inr (1, [.int ((40 : Int32)), .int ((0 : Int32)), .ref q18, .ref q26, .ref q34, .ref q42, .ref q50, .ref q58, .null]))] ++ [(q18, .inl (cT 0, 8, .inl nil0))]) ++ [(q26, .inl (cT 0, 60, .inl nil0))]) ++ [(q34, .inl (cT 0, 60, .inl nil0))]) ++ [(q42, .inl (cT 0, 60, .inl nil0))]) ++ [(q50, .inl (cT 0, 60, .inl nil0))]) ++ [(q58, .inl (cT 0, 24, .inl nil0))]) ++ [(q66, .inl (cT 0, 7, .inl nil0))]) := hD
  refine W.widen (k := 7) (n := 279) (Nat.le_of_ble_eq_true rfl) (Nat.le_of_ble_eq_true rfl) ?_
  refine va_putF (ci := 1) (v := .ref q66) (ty := .array .int) (C := RX1) (T := TX1) (N := 9) hx hb hts iw_X1_init_X1 tyX1 tyX1_ok nmX1 hown hK hP hD hS 0 rfl rfl 8 (by decide) (hts (.fieldLink RX1 37 "BallastTrack$State" "accounts" "[I") (List.mem_of_getElem? (i := 13) rfl)) (fun _ h9 => h9) rfl hin rfl (by decide +kernel) rfl rfl (Nat.le_of_ble_eq_true rfl) dX1_init_68 (fun H locs hP hD hS => ?_)
  replace hP : va_P D vwCl ((((((([(h0, .inr (1, [.int ((40 : Int32)), .int ((0 : Int32)), .ref q18, .ref q26, .ref q34, .ref q42, .ref q50, .ref q58, .ref q66]))] ++ [(q18, .inl (cT 0, 8, .inl nil0))]) ++ [(q26, .inl (cT 0, 60, .inl nil0))]) ++ [(q34, .inl (cT 0, 60, .inl nil0))]) ++ [(q42, .inl (cT 0, 60, .inl nil0))]) ++ [(q50, .inl (cT 0, 60, .inl nil0))]) ++ [(q58, .inl (cT 0, 24, .inl nil0))]) ++ [(q66, .inl (cT 0, 7, .inl nil0))]) H := hP
  replace hD : va_D A ((((((([(h0, .inr (1, [.int ((40 : Int32)), .int ((0 : Int32)), .ref q18, .ref q26, .ref q34, .ref q42, .ref q50, .ref q58, .ref q66]))] ++ [(q18, .inl (cT 0, 8, .inl nil0))]) ++ [(q26, .inl (cT 0, 60, .inl nil0))]) ++ [(q34, .inl (cT 0, 60, .inl nil0))]) ++ [(q42, .inl (cT 0, 60, .inl nil0))]) ++ [(q50, .inl (cT 0, 60, .inl nil0))]) ++ [(q58, .inl (cT 0, 24, .inl nil0))]) ++ [(q66, .inl (cT 0, 7, .inl nil0))]) := hD
  obtain ⟨tF0, hz0, ht0⟩ := hZ.1
  refine va_getsN hx hb hz0 hS hown (va_Nw.use rfl hN.2.2.2.2) (fun _ h9 => h9) dX1_init_71 ?_
  refine lv_iconst (v := 0) hx hb dX1_init_74 (by decide) ?_
  refine lv_aload_n hx hb dX1_init_75 rfl (lv_at hl 0 rfl) ?_
  refine va_get (ci := 1) (v := .ref q18) (C := RX1) (T := TX1) (N := 9) hx hb hts iw_X1_init_X1 hown hK hP 0 rfl rfl 2 (by decide) (hts (.fieldLink RX1 18 "BallastTrack$State" "numbers" "[I") (List.mem_of_getElem? (i := 7) rfl)) (fun _ h9 => h9) rfl dX1_init_76 ?_
  refine lv_iconst (v := 0) hx hb dX1_init_79 (by decide) ?_
  refine lv_bipush (v := 8) hx hb dX1_init_80 (by decide) ?_
  refine cpt_i hx hb (by rw [hml]; exact hl.1.symm) hown (hts (.methodLink RX1 43 arraycopyName) (List.mem_of_getElem? (i := 14) rfl)) (hts (.native arraycopyName) (List.mem_of_getElem? (i := 15) rfl)) (hts (.static arraycopyName) (List.mem_of_getElem? (i := 16) rfl)) (hts (.initialized "java/lang/System") (List.mem_of_getElem? (i := 17) rfl)) hK hP hD hS ht0 1 0 rfl rfl (by decide) (by decide) (by decide) (by decide) (by decide) (Nat.le_of_ble_eq_true rfl) (Nat.le_of_ble_eq_true rfl) dX1_init_82 (fun H locs hP hD hS => ?_)
  replace hP : va_P D vwCl ((((((([(h0, .inr (1, [.int ((40 : Int32)), .int ((0 : Int32)), .ref q18, .ref q26, .ref q34, .ref q42, .ref q50, .ref q58, .ref q66]))] ++ [(q18, .inl (cT 0, 8, .inl (va_cpy tF nil0 (0 : Int32).toNatClampNeg (0 : Int32).toNatClampNeg (8 : Int32).toNatClampNeg)))]) ++ [(q26, .inl (cT 0, 60, .inl nil0))]) ++ [(q34, .inl (cT 0, 60, .inl nil0))]) ++ [(q42, .inl (cT 0, 60, .inl nil0))]) ++ [(q50, .inl (cT 0, 60, .inl nil0))]) ++ [(q58, .inl (cT 0, 24, .inl nil0))]) ++ [(q66, .inl (cT 0, 7, .inl nil0))]) H := hP
  replace hD : va_D A ((((((([(h0, .inr (1, [.int ((40 : Int32)), .int ((0 : Int32)), .ref q18, .ref q26, .ref q34, .ref q42, .ref q50, .ref q58, .ref q66]))] ++ [(q18, .inl (cT 0, 8, .inl (va_cpy tF nil0 (0 : Int32).toNatClampNeg (0 : Int32).toNatClampNeg (8 : Int32).toNatClampNeg)))]) ++ [(q26, .inl (cT 0, 60, .inl nil0))]) ++ [(q34, .inl (cT 0, 60, .inl nil0))]) ++ [(q42, .inl (cT 0, 60, .inl nil0))]) ++ [(q50, .inl (cT 0, 60, .inl nil0))]) ++ [(q58, .inl (cT 0, 24, .inl nil0))]) ++ [(q66, .inl (cT 0, 7, .inl nil0))]) := hD
  subst hQ
  exact en_c (Wn := fun g => wS cT g 0 i_S) (fun k => [h0, q18, q26, q34, q42, q50, q58, q66].getD k 0) rfl hx hb hr hP hD hS hlocks dX1_init_85
theorem iw_X2_init_X2 : ∀ w ∈ u_ws RX2 TX2 8, w ∈ wsX2_init := by decide +kernel
abbrev rm_X2_init : Room := { frames := 1, cells := 3, slots := 180, locals := 12 }
set_option maxHeartbeats 8000000 in
set_option maxRecDepth 100000 in
theorem c_X2_init (l : Launch) (D : va_G) (cT : Nat → ClassId) (h0 t0 sz : Nat) : Met l yX2_init wsX2_init rm_X2_init (va_Pc [.ref h0, .ref t0] (PRE D cT sz [(h0, .inr (2, [.null, .null, .null, .null, .int 0, .int 0, .int 0, .int 0]))])) (QC D h0 (fun g => wV cT (fun k => if k = 4 then t0 else g k) 0 4 i_V) (va_A [(h0, .inr (2, [.null, .null, .null, .null, .int 0, .int 0, .int 0, .int 0]))] sz)) 3 180 (va_A [(h0, .inr (2, [.null, .null, .null, .null, .int 0, .int 0, .int 0, .int 0]))] sz) := by
  refine Met.ofW (cc := cX2_init) (maxL := 2) (ret := none) (by decide) rfl ?_
  intro p e s m args below meth c s₁ B0 hml hv
  obtain ⟨hav, hsz, hP, hK, hD, hN, hZ⟩ := hv
  have hx := B0.exec
  have hb := B0.bytes
  have hr := B0.returns
  have hts := atoms_spec (ws := wsX2_init) B0.pre
  have hown : s.vm.findClass RX2 = some m.cls := findClass_of_methodNamed B0.named
  have hlocks := B0.notSynchronized
  have hin : meth.name = "<init>" := (name_of_methodNamed B0.named B0.method).1
  subst hsz
  have hD := hD.self (sz := s.heap.size)
  have hA : ∀ q : Nat, s.heap.size ≤ q → va_A [(h0, .inr (2, [.null, .null, .null, .null, .int 0, .int 0, .int 0, .int 0]))] s.heap.size q := fun q h => Or.inr h
  generalize va_A [(h0, .inr (2, [.null, .null, .null, .null, .int 0, .int 0, .int 0, .int 0]))] s.heap.size = A at hD hZ hA ⊢
  have hS : va_S A s.heap s.heap [] := va_S.rf
  have hl := lv_entry ([.ref h0, .ref t0]) (n := 2) (Nat.le_of_ble_eq_true rfl)
  rw [hav]
  rw [lg_entry_eq]
  generalize (lg_sl ([.ref h0, .ref t0]) ++ List.replicate (2 - (lg_sl ([.ref h0, .ref t0])).length) Slot.unset).toArray = ls at hl ⊢
  have hl : lv_has ls 2 [(0, .ref h0), (1, .ref t0)] := hl
  rw [← hav]
  generalize hQ : MQ below _ _ _ _ _ _ = Q
  show W p l e rm_X2_init s m args below meth c s.heap [] 0 0 Q (F0 m 0 ls [])
  refine lv_aload_n hx hb dX2_init_0 rfl (lv_at hl 0 rfl) ?_
  refine W.objInit hx hb hown (hts (.methodLink RX2 3 objectInit) (List.mem_of_getElem? (i := 1) rfl)) (hts (.instanceMethod objectInit) (List.mem_of_getElem? (i := 2) rfl)) (hts _ (List.mem_of_getElem? (i := 3) rfl)) rfl (by rw [hml]; exact hl.1) rfl dX2_init_1 (Nat.le_of_ble_eq_true rfl) (Nat.le_of_ble_eq_true rfl) ?_
  refine W.eq (g2 := F0 m 4 ls []) rfl ?_
  refine lv_aload_n hx hb dX2_init_4 rfl (lv_at hl 0 rfl) ?_
  refine lv_bipush (v := 60) hx hb dX2_init_5 (by decide) ?_
  refine nw_i hx hb (hts (.arrayClass .int) (List.mem_of_getElem? (i := 4) rfl)) hK hP hD hS hA 60 (by decide) (by decide) (Nat.le_of_ble_eq_true rfl) (Nat.le_of_ble_eq_true rfl) (Nat.le_of_ble_eq_true rfl) dX2_init_7 (fun q7 H hP hD hS => ?_)
  replace hP : va_P D vwCl ([(h0, .inr (2, [.null, .null, .null, .null, .int 0, .int 0, .int 0, .int 0]))] ++ [(q7, .inl (cT 0, 60, .inl nil0))]) H := hP
  replace hD : va_D A ([(h0, .inr (2, [.null, .null, .null, .null, .int 0, .int 0, .int 0, .int 0]))] ++ [(q7, .inl (cT 0, 60, .inl nil0))]) := hD
  refine W.widen (k := 1) (n := 60) (Nat.le_of_ble_eq_true rfl) (Nat.le_of_ble_eq_true rfl) ?_
  refine va_putF (ci := 2) (v := .ref q7) (ty := .array .int) (C := RX2) (T := TX2) (N := 8) hx hb hts iw_X2_init_X2 tyX2 tyX2_ok nmX2 hown hK hP hD hS 0 rfl rfl 1 (by decide) (hts (.fieldLink RX2 9 "BallastTrack$Survey" "heights" "[I") (List.mem_of_getElem? (i := 5) rfl)) (fun _ h9 => h9) rfl hin rfl (by decide +kernel) rfl rfl (Nat.le_of_ble_eq_true rfl) dX2_init_9 (fun H locs hP hD hS => ?_)
  replace hP : va_P D vwCl ([(h0, .inr (2, [.null, .ref q7, .null, .null, .int 0, .int 0, .int 0, .int 0]))] ++ [(q7, .inl (cT 0, 60, .inl nil0))]) H := hP
  replace hD : va_D A ([(h0, .inr (2, [.null, .ref q7, .null, .null, .int 0, .int 0, .int 0, .int 0]))] ++ [(q7, .inl (cT 0, 60, .inl nil0))]) := hD
  refine lv_aload_n hx hb dX2_init_12 rfl (lv_at hl 0 rfl) ?_
  refine lv_bipush (v := 60) hx hb dX2_init_13 (by decide) ?_
  refine nw_i hx hb (hts (.arrayClass .int) (List.mem_of_getElem? (i := 4) rfl)) hK hP hD hS hA 60 (by decide) (by decide) (Nat.le_of_ble_eq_true rfl) (Nat.le_of_ble_eq_true rfl) (Nat.le_of_ble_eq_true rfl) dX2_init_15 (fun q15 H hP hD hS => ?_)
  replace hP : va_P D vwCl (([(h0, .inr (2, [.null, .ref q7, .null, .null, .int 0, .int 0, .int 0, .int 0]))] ++ [(q7, .inl (cT 0, 60, .inl nil0))]) ++ [(q15, .inl (cT 0, 60, .inl nil0))]) H := hP
  replace hD : va_D A (([(h0, .inr (2, [.null, .ref q7, .null, .null, .int 0, .int 0, .int 0, .int 0]))] ++ [(q7, .inl (cT 0, 60, .inl nil0))]) ++ [(q15, .inl (cT 0, 60, .inl nil0))]) := hD
  refine W.widen (k := 2) (n := 120) (Nat.le_of_ble_eq_true rfl) (Nat.le_of_ble_eq_true rfl) ?_
  refine va_putF (ci := 2) (v := .ref q15) (ty := .array .int) (C := RX2) (T := TX2) (N := 8) hx hb hts iw_X2_init_X2 tyX2 tyX2_ok nmX2 hown hK hP hD hS 0 rfl rfl 2 (by decide) (hts (.fieldLink RX2 15 "BallastTrack$Survey" "loads" "[I") (List.mem_of_getElem? (i := 6) rfl)) (fun _ h9 => h9) rfl hin rfl (by decide +kernel) rfl rfl (Nat.le_of_ble_eq_true rfl) dX2_init_17 (fun H locs hP hD hS => ?_)
  replace hP : va_P D vwCl (([(h0, .inr (2, [.null, .ref q7, .ref q15, .null, .int 0, .int 0, .int 0, .int 0]))] ++ [(q7, .inl (cT 0, 60, .inl nil0))]) ++ [(q15, .inl (cT 0, 60, .inl nil0))]) H := hP
  replace hD : va_D A (([(h0, .inr (2, [.null, .ref q7, .ref q15, .null, .int 0, .int 0, .int 0, .int 0]))] ++ [(q7, .inl (cT 0, 60, .inl nil0))]) ++ [(q15, .inl (cT 0, 60, .inl nil0))]) := hD
  refine lv_aload_n hx hb dX2_init_20 rfl (lv_at hl 0 rfl) ?_
  refine lv_bipush (v := 60) hx hb dX2_init_21 (by decide) ?_
  refine nw_z hx hb (hts (.arrayClass .boolean) (List.mem_of_getElem? (i := 7) rfl)) hK hP hD hS hA 60 (by decide) (by decide) (Nat.le_of_ble_eq_true rfl) (Nat.le_of_ble_eq_true rfl) (Nat.le_of_ble_eq_true rfl) dX2_init_23 (fun q23 H hP hD hS => ?_)
  replace hP : va_P D vwCl ((([(h0, .inr (2, [.null, .ref q7, .ref q15, .null, .int 0, .int 0, .int 0, .int 0]))] ++ [(q7, .inl (cT 0, 60, .inl nil0))]) ++ [(q15, .inl (cT 0, 60, .inl nil0))]) ++ [(q23, .inl (cT 1, 60, .inl nil0))]) H := hP
  replace hD : va_D A ((([(h0, .inr (2, [.null, .ref q7, .ref q15, .null, .int 0, .int 0, .int 0, .int 0]))] ++ [(q7, .inl (cT 0, 60, .inl nil0))]) ++ [(q15, .inl (cT 0, 60, .inl nil0))]) ++ [(q23, .inl (cT 1, 60, .inl nil0))]) := hD
  refine W.widen (k := 3) (n := 180) (Nat.le_of_ble_eq_true rfl) (Nat.le_of_ble_eq_true rfl) ?_
  refine va_putF (ci := 2) (v := .ref q23) (ty := .array .boolean) (C := RX2) (T := TX2) (N := 8) hx hb hts iw_X2_init_X2 tyX2 tyX2_ok nmX2 hown hK hP hD hS 0 rfl rfl 3 (by decide) (hts (.fieldLink RX2 18 "BallastTrack$Survey" "hanging" "[Z") (List.mem_of_getElem? (i := 8) rfl)) (fun _ h9 => h9) rfl hin rfl (by decide +kernel) rfl rfl (Nat.le_of_ble_eq_true rfl) dX2_init_25 (fun H locs hP hD hS => ?_)
  replace hP : va_P D vwCl ((([(h0, .inr (2, [.null, .ref q7, .ref q15, .ref q23, .int 0, .int 0, .int 0, .int 0]))] ++ [(q7, .inl (cT 0, 60, .inl nil0))]) ++ [(q15, .inl (cT 0, 60, .inl nil0))]) ++ [(q23, .inl (cT 1, 60, .inl nil0))]) H := hP
  replace hD : va_D A ((([(h0, .inr (2, [.null, .ref q7, .ref q15, .ref q23, .int 0, .int 0, .int 0, .int 0]))] ++ [(q7, .inl (cT 0, 60, .inl nil0))]) ++ [(q15, .inl (cT 0, 60, .inl nil0))]) ++ [(q23, .inl (cT 1, 60, .inl nil0))]) := hD
  refine lv_aload_n hx hb dX2_init_28 rfl (lv_at hl 0 rfl) ?_
  refine lv_iconst (v := 0) hx hb dX2_init_29 (by decide) ?_
  refine va_put (ci := 2) (v := .int ((0 : Int32))) (ty := .int) (C := RX2) (T := TX2) (N := 8) hx hb hts iw_X2_init_X2 tyX2 tyX2_ok nmX2 hown hK hP hD hS 0 rfl rfl 4 (by decide) (hts (.fieldLink RX2 22 "BallastTrack$Survey" "hangingCount" "I") (List.mem_of_getElem? (i := 9) rfl)) (fun _ h9 => h9) rfl (by decide +kernel) rfl rfl (Nat.le_of_ble_eq_true rfl) dX2_init_30 (fun H locs hP hD hS => ?_)
  replace hP : va_P D vwCl ((([(h0, .inr (2, [.null, .ref q7, .ref q15, .ref q23, .int ((0 : Int32)), .int 0, .int 0, .int 0]))] ++ [(q7, .inl (cT 0, 60, .inl nil0))]) ++ [(q15, .inl (cT 0, 60, .inl nil0))]) ++ [(q23, .inl (cT 1, 60, .inl nil0))]) H := hP
  replace hD : va_D A ((([(h0, .inr (2, [.null, .ref q7, .ref q15, .ref q23, .int ((0 : Int32)), .int 0, .int 0, .int 0]))] ++ [(q7, .inl (cT 0, 60, .inl nil0))]) ++ [(q15, .inl (cT 0, 60, .inl nil0))]) ++ [(q23, .inl (cT 1, 60, .inl nil0))]) := hD
  refine lv_aload_n hx hb dX2_init_33 rfl (lv_at hl 0 rfl) ?_
  refine lv_iconst (v := 0) hx hb dX2_init_34 (by decide) ?_
  refine va_put (ci := 2) (v := .int ((0 : Int32))) (ty := .int) (C := RX2) (T := TX2) (N := 8) hx hb hts iw_X2_init_X2 tyX2 tyX2_ok nmX2 hown hK hP hD hS 0 rfl rfl 5 (by decide) (hts (.fieldLink RX2 26 "BallastTrack$Survey" "worst" "I") (List.mem_of_getElem? (i := 10) rfl)) (fun _ h9 => h9) rfl (by decide +kernel) rfl rfl (Nat.le_of_ble_eq_true rfl) dX2_init_35 (fun H locs hP hD hS => ?_)
  replace hP : va_P D vwCl ((([(h0, .inr (2, [.null, .ref q7, .ref q15, .ref q23, .int ((0 : Int32)), .int ((0 : Int32)), .int 0, .int 0]))] ++ [(q7, .inl (cT 0, 60, .inl nil0))]) ++ [(q15, .inl (cT 0, 60, .inl nil0))]) ++ [(q23, .inl (cT 1, 60, .inl nil0))]) H := hP
  replace hD : va_D A ((([(h0, .inr (2, [.null, .ref q7, .ref q15, .ref q23, .int ((0 : Int32)), .int ((0 : Int32)), .int 0, .int 0]))] ++ [(q7, .inl (cT 0, 60, .inl nil0))]) ++ [(q15, .inl (cT 0, 60, .inl nil0))]) ++ [(q23, .inl (cT 1, 60, .inl nil0))]) := hD
  refine lv_aload_n hx hb dX2_init_38 rfl (lv_at hl 0 rfl) ?_
  refine lv_iconst (v := 0) hx hb dX2_init_39 (by decide) ?_
  refine va_put (ci := 2) (v := .int ((0 : Int32))) (ty := .int) (C := RX2) (T := TX2) (N := 8) hx hb hts iw_X2_init_X2 tyX2 tyX2_ok nmX2 hown hK hP hD hS 0 rfl rfl 6 (by decide) (hts (.fieldLink RX2 29 "BallastTrack$Survey" "worstSize" "I") (List.mem_of_getElem? (i := 11) rfl)) (fun _ h9 => h9) rfl (by decide +kernel) rfl rfl (Nat.le_of_ble_eq_true rfl) dX2_init_40 (fun H locs hP hD hS => ?_)
  replace hP : va_P D vwCl ((([(h0, .inr (2, [.null, .ref q7, .ref q15, .ref q23, .int ((0 : Int32)), .int ((0 : Int32)), .int ((0 : Int32)), .int 0]))] ++ [(q7, .inl (cT 0, 60, .inl nil0))]) ++ [(q15, .inl (cT 0, 60, .inl nil0))]) ++ [(q23, .inl (cT 1, 60, .inl nil0))]) H := hP
  replace hD : va_D A ((([(h0, .inr (2, [.null, .ref q7, .ref q15, .ref q23, .int ((0 : Int32)), .int ((0 : Int32)), .int ((0 : Int32)), .int 0]))] ++ [(q7, .inl (cT 0, 60, .inl nil0))]) ++ [(q15, .inl (cT 0, 60, .inl nil0))]) ++ [(q23, .inl (cT 1, 60, .inl nil0))]) := hD
  refine lv_aload_n hx hb dX2_init_43 rfl (lv_at hl 0 rfl) ?_
  refine lv_iconst (v := 0) hx hb dX2_init_44 (by decide) ?_
  refine va_put (ci := 2) (v := .int ((0 : Int32))) (ty := .int) (C := RX2) (T := TX2) (N := 8) hx hb hts iw_X2_init_X2 tyX2 tyX2_ok nmX2 hown hK hP hD hS 0 rfl rfl 7 (by decide) (hts (.fieldLink RX2 32 "BallastTrack$Survey" "order" "I") (List.mem_of_getElem? (i := 12) rfl)) (fun _ h9 => h9) rfl (by decide +kernel) rfl rfl (Nat.le_of_ble_eq_true rfl) dX2_init_45 (fun H locs hP hD hS => ?_)
  replace hP : va_P D vwCl ((([(h0, .inr (2, [.null, .ref q7, .ref q15, .ref q23, .int ((0 : Int32)), .int ((0 : Int32)), .int ((0 : Int32)), .int ((0 : Int32))]))] ++ [(q7, .inl (cT 0, 60, .inl nil0))]) ++ [(q15, .inl (cT 0, 60, .inl nil0))]) ++ [(q23, .inl (cT 1, 60, .inl nil0))]) H := hP
  replace hD : va_D A ((([(h0, .inr (2, [.null, .ref q7, .ref q15, .ref q23, .int ((0 : Int32)), .int ((0 : Int32)), .int ((0 : Int32)), .int ((0 : Int32))]))] ++ [(q7, .inl (cT 0, 60, .inl nil0))]) ++ [(q15, .inl (cT 0, 60, .inl nil0))]) ++ [(q23, .inl (cT 1, 60, .inl nil0))]) := hD
  refine lv_aload_n hx hb dX2_init_48 rfl (lv_at hl 0 rfl) ?_
  refine lv_aload_n hx hb dX2_init_49 rfl (lv_at hl 1 rfl) ?_
  refine va_putF (ci := 2) (v := .ref t0) (ty := .object "BallastTrack$State") (C := RX2) (T := TX2) (N := 8) hx hb hts iw_X2_init_X2 tyX2 tyX2_ok nmX2 hown hK hP hD hS 0 rfl rfl 0 (by decide) (hts (.fieldLink RX2 35 "BallastTrack$Survey" "track" "LBallastTrack$State;") (List.mem_of_getElem? (i := 13) rfl)) (fun _ h9 => h9) rfl hin rfl (by decide +kernel) rfl rfl (Nat.le_of_ble_eq_true rfl) dX2_init_50 (fun H locs hP hD hS => ?_)
  replace hP : va_P D vwCl ((([(h0, .inr (2, [.ref t0, .ref q7, .ref q15, .ref q23, .int ((0 : Int32)), .int ((0 : Int32)), .int ((0 : Int32)), .int ((0 : Int32))]))] ++ [(q7, .inl (cT 0, 60, .inl nil0))]) ++ [(q15, .inl (cT 0, 60, .inl nil0))]) ++ [(q23, .inl (cT 1, 60, .inl nil0))]) H := hP
  replace hD : va_D A ((([(h0, .inr (2, [.ref t0, .ref q7, .ref q15, .ref q23, .int ((0 : Int32)), .int ((0 : Int32)), .int ((0 : Int32)), .int ((0 : Int32))]))] ++ [(q7, .inl (cT 0, 60, .inl nil0))]) ++ [(q15, .inl (cT 0, 60, .inl nil0))]) ++ [(q23, .inl (cT 1, 60, .inl nil0))]) := hD
  subst hQ
  exact en_c (Wn := fun g => wV cT (fun k => if k = 4 then t0 else g k) 0 4 i_V) (fun k => [h0, q7, q15, q23].getD k 0) rfl hx hb hr hP hD hS hlocks dX2_init_53
theorem iw_X3_init_X3 : ∀ w ∈ u_ws RX3 TX3 4, w ∈ wsX3_init := by decide +kernel
abbrev rm_X3_init : Room := { frames := 1, cells := 1, slots := 100, locals := 12 }
set_option maxHeartbeats 8000000 in
set_option maxRecDepth 100000 in
theorem c_X3_init (l : Launch) (D : va_G) (cT : Nat → ClassId) (h0 sz : Nat) : Met l yX3_init wsX3_init rm_X3_init (va_Pc [.ref h0] (PRE D cT sz [(h0, .inr (3, [.null, .int 0, .int 0, .int 0]))])) (QC D h0 (fun g => wX cT g 0 i_X) (va_A [(h0, .inr (3, [.null, .int 0, .int 0, .int 0]))] sz)) 1 100 (va_A [(h0, .inr (3, [.null, .int 0, .int 0, .int 0]))] sz) := by
  refine Met.ofW (cc := cX3_init) (maxL := 1) (ret := none) (by decide) rfl ?_
  intro p e s m args below meth c s₁ B0 hml hv
  obtain ⟨hav, hsz, hP, hK, hD, hN, hZ⟩ := hv
  have hx := B0.exec
  have hb := B0.bytes
  have hr := B0.returns
  have hts := atoms_spec (ws := wsX3_init) B0.pre
  have hown : s.vm.findClass RX3 = some m.cls := findClass_of_methodNamed B0.named
  have hlocks := B0.notSynchronized
  have hin : meth.name = "<init>" := (name_of_methodNamed B0.named B0.method).1
  subst hsz
  have hD := hD.self (sz := s.heap.size)
  have hA : ∀ q : Nat, s.heap.size ≤ q → va_A [(h0, .inr (3, [.null, .int 0, .int 0, .int 0]))] s.heap.size q := fun q h => Or.inr h
  generalize va_A [(h0, .inr (3, [.null, .int 0, .int 0, .int 0]))] s.heap.size = A at hD hZ hA ⊢
  have hS : va_S A s.heap s.heap [] := va_S.rf
  have hl := lv_entry ([.ref h0]) (n := 1) (Nat.le_of_ble_eq_true rfl)
  rw [hav]
  rw [lg_entry_eq]
  generalize (lg_sl ([.ref h0]) ++ List.replicate (1 - (lg_sl ([.ref h0])).length) Slot.unset).toArray = ls at hl ⊢
  have hl : lv_has ls 1 [(0, .ref h0)] := hl
  rw [← hav]
  generalize hQ : MQ below _ _ _ _ _ _ = Q
  show W p l e rm_X3_init s m args below meth c s.heap [] 0 0 Q (F0 m 0 ls [])
  refine lv_aload_n hx hb dX3_init_0 rfl (lv_at hl 0 rfl) ?_
  refine W.objInit hx hb hown (hts (.methodLink RX3 3 objectInit) (List.mem_of_getElem? (i := 1) rfl)) (hts (.instanceMethod objectInit) (List.mem_of_getElem? (i := 2) rfl)) (hts _ (List.mem_of_getElem? (i := 3) rfl)) rfl (by rw [hml]; exact hl.1) rfl dX3_init_1 (Nat.le_of_ble_eq_true rfl) (Nat.le_of_ble_eq_true rfl) ?_
  refine W.eq (g2 := F0 m 4 ls []) rfl ?_
  refine lv_aload_n hx hb dX3_init_4 rfl (lv_at hl 0 rfl) ?_
  refine lv_bipush (v := 100) hx hb dX3_init_5 (by decide) ?_
  refine nw_i hx hb (hts (.arrayClass .int) (List.mem_of_getElem? (i := 4) rfl)) hK hP hD hS hA 100 (by decide) (by decide) (Nat.le_of_ble_eq_true rfl) (Nat.le_of_ble_eq_true rfl) (Nat.le_of_ble_eq_true rfl) dX3_init_7 (fun q7 H hP hD hS => ?_)
  replace hP : va_P D vwCl ([(h0, .inr (3, [.null, .int 0, .int 0, .int 0]))] ++ [(q7, .inl (cT 0, 100, .inl nil0))]) H := hP
  replace hD : va_D A ([(h0, .inr (3, [.null, .int 0, .int 0, .int 0]))] ++ [(q7, .inl (cT 0, 100, .inl nil0))]) := hD
  refine W.widen (k := 1) (n := 100) (Nat.le_of_ble_eq_true rfl) (Nat.le_of_ble_eq_true rfl) ?_
  refine va_putF (ci := 3) (v := .ref q7) (ty := .array .int) (C := RX3) (T := TX3) (N := 4) hx hb hts iw_X3_init_X3 tyX3 tyX3_ok nmX3 hown hK hP hD hS 0 rfl rfl 0 (by decide) (hts (.fieldLink RX3 9 "BallastTrack$Text" "characters" "[I") (List.mem_of_getElem? (i := 5) rfl)) (fun _ h9 => h9) rfl hin rfl (by decide +kernel) rfl rfl (Nat.le_of_ble_eq_true rfl) dX3_init_9 (fun H locs hP hD hS => ?_)
  replace hP : va_P D vwCl ([(h0, .inr (3, [.ref q7, .int 0, .int 0, .int 0]))] ++ [(q7, .inl (cT 0, 100, .inl nil0))]) H := hP
  replace hD : va_D A ([(h0, .inr (3, [.ref q7, .int 0, .int 0, .int 0]))] ++ [(q7, .inl (cT 0, 100, .inl nil0))]) := hD
  refine lv_aload_n hx hb dX3_init_12 rfl (lv_at hl 0 rfl) ?_
  refine lv_iconst (v := 0) hx hb dX3_init_13 (by decide) ?_
  refine va_put (ci := 3) (v := .int ((0 : Int32))) (ty := .int) (C := RX3) (T := TX3) (N := 4) hx hb hts iw_X3_init_X3 tyX3 tyX3_ok nmX3 hown hK hP hD hS 0 rfl rfl 1 (by decide) (hts (.fieldLink RX3 15 "BallastTrack$Text" "length" "I") (List.mem_of_getElem? (i := 6) rfl)) (fun _ h9 => h9) rfl (by decide +kernel) rfl rfl (Nat.le_of_ble_eq_true rfl) dX3_init_14 (fun H locs hP hD hS => ?_)
  replace hP : va_P D vwCl ([(h0, .inr (3, [.ref q7, .int ((0 : Int32)), .int 0, .int 0]))] ++ [(q7, .inl (cT 0, 100, .inl nil0))]) H := hP
  replace hD : va_D A ([(h0, .inr (3, [.ref q7, .int ((0 : Int32)), .int 0, .int 0]))] ++ [(q7, .inl (cT 0, 100, .inl nil0))]) := hD
  refine lv_aload_n hx hb dX3_init_17 rfl (lv_at hl 0 rfl) ?_
  refine lv_iconst (v := 0) hx hb dX3_init_18 (by decide) ?_
  refine va_put (ci := 3) (v := .int ((0 : Int32))) (ty := .int) (C := RX3) (T := TX3) (N := 4) hx hb hts iw_X3_init_X3 tyX3 tyX3_ok nmX3 hown hK hP hD hS 0 rfl rfl 2 (by decide) (hts (.fieldLink RX3 19 "BallastTrack$Text" "errorPosition" "I") (List.mem_of_getElem? (i := 7) rfl)) (fun _ h9 => h9) rfl (by decide +kernel) rfl rfl (Nat.le_of_ble_eq_true rfl) dX3_init_19 (fun H locs hP hD hS => ?_)
  replace hP : va_P D vwCl ([(h0, .inr (3, [.ref q7, .int ((0 : Int32)), .int ((0 : Int32)), .int 0]))] ++ [(q7, .inl (cT 0, 100, .inl nil0))]) H := hP
  replace hD : va_D A ([(h0, .inr (3, [.ref q7, .int ((0 : Int32)), .int ((0 : Int32)), .int 0]))] ++ [(q7, .inl (cT 0, 100, .inl nil0))]) := hD
  refine lv_aload_n hx hb dX3_init_22 rfl (lv_at hl 0 rfl) ?_
  refine lv_iconst (v := 0) hx hb dX3_init_23 (by decide) ?_
  refine va_put (ci := 3) (v := .int ((0 : Int32))) (ty := .int) (C := RX3) (T := TX3) (N := 4) hx hb hts iw_X3_init_X3 tyX3 tyX3_ok nmX3 hown hK hP hD hS 0 rfl rfl 3 (by decide) (hts (.fieldLink RX3 22 "BallastTrack$Text" "position" "I") (List.mem_of_getElem? (i := 8) rfl)) (fun _ h9 => h9) rfl (by decide +kernel) rfl rfl (Nat.le_of_ble_eq_true rfl) dX3_init_24 (fun H locs hP hD hS => ?_)
  replace hP : va_P D vwCl ([(h0, .inr (3, [.ref q7, .int ((0 : Int32)), .int ((0 : Int32)), .int ((0 : Int32))]))] ++ [(q7, .inl (cT 0, 100, .inl nil0))]) H := hP
  replace hD : va_D A ([(h0, .inr (3, [.ref q7, .int ((0 : Int32)), .int ((0 : Int32)), .int ((0 : Int32))]))] ++ [(q7, .inl (cT 0, 100, .inl nil0))]) := hD
  subst hQ
  exact en_c (Wn := fun g => wX cT g 0 i_X) (fun k => [h0, q7].getD k 0) rfl hx hb hr hP hD hS hlocks dX3_init_27
