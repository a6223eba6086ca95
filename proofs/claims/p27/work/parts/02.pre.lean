/-! functional programs: their pieces -/
def nm {α β : Type} (e : α) (k : α → β) : β := k e
def ix {α : Type} (i : Int32) (n : Nat) (k : Option α) : Option α := if 0 ≤ i.toInt ∧ i.toInt < (n : Int) then k else none
def rq {α : Type} (c : Bool) (k : Option α) : Option α := match c with | true => k | false => none
def bd {α β : Type} (x : Option α) (k : α → Option β) : Option β := match x with | some a => k a | none => none
def jn {κ β : Type} (K : κ) (M : κ → β) : β := M K
def sm {α β γ : Type} (x : α ⊕ β) (f : α → γ) (g : β → γ) : γ := match x with | .inl a => f a | .inr b => g b
def bI (b : Bool) : Int32 := if b then 1 else 0
theorem nm_i {α β : Type} {e : α} {k : α → β} {y : β} (h : nm e k = y) {x : α} (hx : x = e) : k x = y := by rw [hx]; exact h
theorem ix_i {α : Type} {i : Int32} {n : Nat} {k : Option α} {y : α} (h : ix i n k = some y) : vp_in i n ∧ k = some y := by
  unfold ix at h
  split at h
  · rename_i c
    exact ⟨vp_in_iff.mpr c, h⟩
  · cases h
theorem rq_i {α : Type} {c : Bool} {k : Option α} {y : α} (h : rq c k = some y) : c = true ∧ k = some y := by
  cases c with
  | true => exact ⟨rfl, h⟩
  | false => cases h
theorem bd_i {α β : Type} {x : Option α} {k : α → Option β} {y : β} (h : bd x k = some y) : ∃ a, x = some a ∧ k a = some y := by
  cases x with
  | some a => exact ⟨a, rfl, h⟩
  | none => cases h
theorem jn_i {κ β : Type} {K : κ} {M : κ → β} {y : β} (h : jn K M = y) : ∃ K', K' = K ∧ M K' = y := ⟨K, rfl, h⟩
theorem it_t {α : Type} {c : Prop} [Decidable c] {a b y : α} (h : (if c then a else b) = y) (hc : c) : a = y := by rw [if_pos hc] at h; exact h
theorem it_f {α : Type} {c : Prop} [Decidable c] {a b y : α} (h : (if c then a else b) = y) (hc : ¬ c) : b = y := by rw [if_neg hc] at h; exact h
theorem nar_bI (b : Bool) : narrow .boolean (.int (bI b)) = .int (bI b) := by cases b <;> rfl
theorem sw_out {x : Int32} {lo hi : Int} (h : ∀ k : Int, lo ≤ k → k ≤ hi → ¬ x = Int32.ofInt k) : x.toInt < lo ∨ hi < x.toInt := by
  by_cases a : x.toInt < lo
  · exact Or.inl a
  · by_cases b : hi < x.toInt
    · exact Or.inr b
    · exact absurd (by rw [Int32.ofInt_toInt]) (h x.toInt (by omega) (by omega))
/-! blocks of a world -/
def adr (ws : va_W) : List Nat := ws.map (fun q => q.1)
def pick (B : List va_W) (is : List Nat) : List va_W := is.filterMap (fun i => B[i]?)
theorem va_P_mem {D : va_G} {cl : List vw_C} {ws : va_W} {H : Heap} : va_P D cl ws H ↔ ∀ q ∈ ws, va_at D cl q H := by
  constructor
  · intro h q hq
    obtain ⟨k, hk⟩ := List.getElem?_of_mem hq
    exact h k q hk
  · intro h k q hk
    exact h q (List.mem_of_getElem? hk)
theorem va_D_iff {A : Nat → Prop} {ws : va_W} : va_D A ws ↔ (adr ws).Nodup ∧ ∀ a ∈ adr ws, A a := by
  constructor
  · intro h
    refine ⟨?_, fun a ha => ?_⟩
    · unfold List.Nodup
      rw [List.pairwise_iff_getElem]
      intro i j hi hj hij e
      unfold adr at e hi hj
      rw [List.length_map] at hi hj
      rw [List.getElem_map, List.getElem_map] at e
      have := h.1 i j _ _ (List.getElem?_eq_getElem hi) (List.getElem?_eq_getElem hj) e
      omega
    · obtain ⟨q, hq, rfl⟩ := List.mem_map.mp ha
      obtain ⟨k, hk⟩ := List.getElem?_of_mem hq
      exact h.2 k q hk
  · intro ⟨hn, hA⟩
    refine ⟨fun i j p q hi hj e => ?_, fun k q hk => hA _ (List.mem_map.mpr ⟨q, List.mem_of_getElem? hk, rfl⟩)⟩
    unfold List.Nodup at hn
    rw [List.pairwise_iff_getElem] at hn
    have key : ∀ (i j : Nat) (p q : Nat × va_E), ws[i]? = some p → ws[j]? = some q → p.1 = q.1 → ¬ i < j := by
      intro i j p q hi hj e hlt
      obtain ⟨hil, ei⟩ := List.getElem?_eq_some_iff.mp hi
      obtain ⟨hjl, ej⟩ := List.getElem?_eq_some_iff.mp hj
      refine hn i j (by unfold adr; rw [List.length_map]; exact hil) (by unfold adr; rw [List.length_map]; exact hjl) hlt ?_
      unfold adr
      rw [List.getElem_map, List.getElem_map, ei, ej]
      exact e
    rcases Nat.lt_trichotomy i j with a | a | a
    · exact absurd a (key i j p q hi hj e)
    · exact a
    · exact absurd a (key j i q p hj hi e.symm)
theorem va_D_adr {A : Nat → Prop} {ws ws' : va_W} (h : va_D A ws) (e : adr ws' = adr ws) : va_D A ws' := by
  rw [va_D_iff] at h ⊢
  rw [e]
  exact h
theorem va_A_adr {ws ws' : va_W} {sz q : Nat} (e : adr ws' = adr ws) (h : va_A ws sz q) : va_A ws' sz q := by
  rcases h with ⟨k, x, h⟩ | h
  · have hm : q ∈ adr ws' := by rw [e]; exact List.mem_map.mpr ⟨(q, x), List.mem_of_getElem? h, rfl⟩
    obtain ⟨y, hy, rfl⟩ := List.mem_map.mp hm
    obtain ⟨j, hj⟩ := List.getElem?_of_mem hy
    exact Or.inl ⟨j, y.2, hj⟩
  · exact Or.inr h
theorem va_A_mem {ws : va_W} {sz q : Nat} : va_A ws sz q ↔ q ∈ adr ws ∨ sz ≤ q := by
  constructor
  · rintro (⟨k, x, h⟩ | h)
    · exact Or.inl (List.mem_map.mpr ⟨(q, x), List.mem_of_getElem? h, rfl⟩)
    · exact Or.inr h
  · rintro (h | h)
    · obtain ⟨y, hy, rfl⟩ := List.mem_map.mp h
      obtain ⟨j, hj⟩ := List.getElem?_of_mem hy
      exact Or.inl ⟨j, y.2, hj⟩
    · exact Or.inr h
theorem pick_mem {B : List va_W} {is : List Nat} {q : Nat × va_E} : q ∈ (pick B is).flatten ↔ ∃ i ∈ is, ∃ b, B[i]? = some b ∧ q ∈ b := by
  unfold pick
  constructor
  · intro h
    obtain ⟨b, hb, hq⟩ := List.mem_flatten.mp h
    obtain ⟨i, hi, e⟩ := List.mem_filterMap.mp hb
    exact ⟨i, hi, b, e, hq⟩
  · rintro ⟨i, hi, b, e, hq⟩
    exact List.mem_flatten.mpr ⟨b, List.mem_filterMap.mpr ⟨i, hi, e⟩, hq⟩
theorem pick_P {D : va_G} {cl : List vw_C} {B : List va_W} {H : Heap} (h : va_P D cl B.flatten H) (is : List Nat) : va_P D cl (pick B is).flatten H := by
  rw [va_P_mem] at h ⊢
  intro q hq
  obtain ⟨i, -, b, e, hb⟩ := pick_mem.mp hq
  exact h q (List.mem_flatten.mpr ⟨b, List.mem_of_getElem? e, hb⟩)
/-- places among blocks: no place twice -/
theorem pick_nodup {B : List va_W} (h : (adr B.flatten).Nodup) : ∀ (is : List Nat), is.Nodup → (adr (pick B is).flatten).Nodup ∧ ∀ i ∈ is, True := by
  have apart : ∀ (B : List va_W), (adr B.flatten).Nodup → ∀ (i j : Nat) (b c : va_W), i < j → B[i]? = some b → B[j]? = some c → ∀ a ∈ adr b, a ∉ adr c := by
    intro B
    induction B with
    | nil => intro _ i j b c _ hb; simp at hb
    | cons x xs ih =>
      intro hn i j b c hij hb hc a ha hac
      unfold adr at hn ha hac
      rw [List.flatten_cons, List.map_append, List.nodup_append] at hn
      cases j with
      | zero => omega
      | succ j =>
        rw [List.getElem?_cons_succ] at hc
        cases i with
        | zero =>
          rw [List.getElem?_cons_zero] at hb
          cases hb
          obtain ⟨q, hq, rfl⟩ := List.mem_map.mp hac
          exact hn.2.2 _ ha _ (List.mem_map.mpr ⟨q, List.mem_flatten.mpr ⟨c, List.mem_of_getElem? hc, hq⟩, rfl⟩) rfl
        | succ i =>
          rw [List.getElem?_cons_succ] at hb
          exact ih (by unfold adr; exact hn.2.1) i j b c (by omega) hb hc a (by unfold adr; exact ha) (by unfold adr; exact hac)
  have own : ∀ (B : List va_W), (adr B.flatten).Nodup → ∀ b ∈ B, (adr b).Nodup := by
    intro B
    induction B with
    | nil => intro _ b hb; cases hb
    | cons x xs ih =>
      intro hn b hb
      unfold adr at hn
      rw [List.flatten_cons, List.map_append, List.nodup_append] at hn
      rcases List.mem_cons.mp hb with rfl | hb
      · exact hn.1
      · exact ih (by unfold adr; exact hn.2.1) b hb
  intro is
  induction is with
  | nil => intro _; exact ⟨by unfold adr pick; simp, fun _ _ => trivial⟩
  | cons i is ih =>
    intro hn
    rw [List.nodup_cons] at hn
    refine ⟨?_, fun _ _ => trivial⟩
    unfold pick
    rw [List.filterMap_cons]
    cases hb : B[i]? with
    | none => exact (ih hn.2).1
    | some b =>
      show (adr (b :: pick B is).flatten).Nodup
      unfold adr
      rw [List.flatten_cons, List.map_append, List.nodup_append]
      refine ⟨own B h b (List.mem_of_getElem? hb), (ih hn.2).1, ?_⟩
      intro a ha a2 ha2 e
      subst e
      obtain ⟨q, hq, rfl⟩ := List.mem_map.mp ha2
      obtain ⟨j, hj, c, hc, hqc⟩ := pick_mem.mp hq
      have hij : i ≠ j := fun e => hn.1 (e ▸ hj)
      rcases Nat.lt_or_gt_of_ne hij with l | l
      · exact apart B h i j b c l hb hc q.1 ha (List.mem_map.mpr ⟨q, hqc, rfl⟩)
      · exact apart B h j i c b l hc hb q.1 (List.mem_map.mpr ⟨q, hqc, rfl⟩) ha
theorem pick_D {A A' : Nat → Prop} {B : List va_W} (h : va_D A B.flatten) (is : List Nat) (hn : is.Nodup) (hA : ∀ a, a ∈ adr (pick B is).flatten → A a → A' a) : va_D A' (pick B is).flatten := by
  rw [va_D_iff] at h ⊢
  refine ⟨(pick_nodup h.1 is hn).1, fun a ha => hA a ha (h.2 a ?_)⟩
  obtain ⟨q, hq, rfl⟩ := List.mem_map.mp ha
  obtain ⟨i, -, b, e, hb⟩ := pick_mem.mp hq
  exact List.mem_map.mpr ⟨q, List.mem_flatten.mpr ⟨b, List.mem_of_getElem? e, hb⟩, rfl⟩
theorem pick_A {A : Nat → Prop} {B : List va_W} {sz q : Nat} (h : va_D A B.flatten) (hA : ∀ q, sz ≤ q → A q) (is : List Nat) (hq : va_A (pick B is).flatten sz q) : A q := by
  rw [va_D_iff] at h
  rcases va_A_mem.mp hq with hm | hm
  · obtain ⟨y, hy, rfl⟩ := List.mem_map.mp hm
    obtain ⟨i, -, b, e, hb⟩ := pick_mem.mp hy
    exact h.2 _ (List.mem_map.mpr ⟨y, List.mem_flatten.mpr ⟨b, List.mem_of_getElem? e, hb⟩, rfl⟩)
  · exact hA q hm
/-- the frame rule, by blocks: the callee's blocks isC are new, the others isR are as they were -/
theorem blk_join {D : va_G} {cl : List vw_C} {A : Nat → Prop} {B B1 : List va_W} {H H1 : Heap} (isC isR : List Nat) (hP : va_P D cl B.flatten H) (hD : va_D A B.flatten)
    (hk : ∀ q : Nat, q < H.size → ¬ va_A (pick B isC).flatten H.size q → H1[q]? = H[q]?) (hP1 : va_P D cl (pick B1 isC).flatten H1)
    (hR : pick B1 isR = pick B isR) (N : Nat) (hN : B1.length = N) (hall : ∀ i, i < N → i ∈ isC ∨ i ∈ isR) (hn : (isC ++ isR).Nodup) : va_P D cl B1.flatten H1 := by
  rw [va_P_mem]
  intro q hq
  obtain ⟨b, hb, hqb⟩ := List.mem_flatten.mp hq
  obtain ⟨i, hi⟩ := List.getElem?_of_mem hb
  have hil : i < B1.length := (List.getElem?_eq_some_iff.mp hi).1
  rcases hall i (hN ▸ hil) with h | h
  · exact va_P_mem.mp hP1 q (pick_mem.mpr ⟨i, h, b, hi, hqb⟩)
  · have hm : q ∈ (pick B isR).flatten := by rw [← hR]; exact pick_mem.mpr ⟨i, h, b, hi, hqb⟩
    obtain ⟨j, hj, b2, hb2, hq2⟩ := pick_mem.mp hm
    have h0 := va_P_mem.mp hP q (List.mem_flatten.mpr ⟨b2, List.mem_of_getElem? hb2, hq2⟩)
    refine h0.kept (hk q.1 h0.lt ?_)
    intro hA
    rcases va_A_mem.mp hA with hA | hA
    · have hd := (pick_nodup (va_D_iff.mp hD).1 (isC ++ isR) hn).1
      have e : pick B (isC ++ isR) = pick B isC ++ pick B isR := by unfold pick; exact List.filterMap_append ..
      unfold adr at hd hA
      rw [e, List.flatten_append, List.map_append, List.nodup_append] at hd
      exact hd.2.2 _ hA _ (List.mem_map.mpr ⟨q, hm, rfl⟩) rfl
    · exact absurd h0.lt (by omega)
/-! what every contract takes and gives -/
abbrev ty4 (cT : Nat → ClassId) : List (ClassId × FieldType) := [(cT 0, .int), (cT 1, .boolean), (cT 2, .int), (cT 3, .object "BallastTrack$State")]
def tF (j : Nat) : Int32 := match j with | 0 => 4 | 1 => 10 | 2 => 3 | 3 => 20 | 4 => 40 | 5 => 80 | 6 => 200 | _ => 5
def tL (j : Nat) : Int32 := match j with | 0 => 1 | 1 => 0 | 2 => 1 | 3 => 1 | 4 => 1 | 5 => 1 | 6 => 10 | _ => 1
def tG (j : Nat) : Int32 := match j with | 0 => 20 | 1 => 99 | 2 => 5 | 3 => 2000 | 4 => 2000 | 5 => 2000 | 6 => 500 | _ => 50
def STat (n : String) (f : Nat → Int32) (A : Nat → Prop) (U : State) (H : Heap) : Prop := ∃ t : Nat, va_Z "BallastTrack" n "[I" (.ref t) A U H ∧ va_T .int t 8 (fun j => .int (f j)) A U H
def STs (A : Nat → Prop) (U : State) (H : Heap) : Prop := STat "FIRST_NUMBERS" tF A U H ∧ STat "LEAST_NUMBERS" tL A U H ∧ STat "GREATEST_NUMBERS" tG A U H
theorem STat.to {n : String} {f : Nat → Int32} {A B : Nat → Prop} {u U : State} {H H1 : Heap} (h : STat n f A u H) (hvm : u.vm.Alike U.vm) (hq : ∀ a : Nat, a < H.size → ¬ A a → H1[a]? = H[a]?) (hAB : ∀ q, B q → A q) : STat n f B U H1 := by
  obtain ⟨t, h1, h2⟩ := h
  exact ⟨t, ((h1.moved hvm).kept hq).narrow hAB, ((h2.moved hvm).kept hq).narrow hAB⟩
theorem STs.to {A B : Nat → Prop} {u U : State} {H H1 : Heap} (h : STs A u H) (hvm : u.vm.Alike U.vm) (hq : ∀ a : Nat, a < H.size → ¬ A a → H1[a]? = H[a]?) (hAB : ∀ q, B q → A q) : STs B U H1 :=
  ⟨h.1.to hvm hq hAB, h.2.1.to hvm hq hAB, h.2.2.to hvm hq hAB⟩
def NWs (U : State) : Prop := va_Nw (.methodLinkNest RX4 40 yX3_init "BallastTrack") U ∧ va_Nw (.methodLinkNest RX1 55 yX4_isWithin "BallastTrack") U ∧ va_Nw (.methodLinkNest RX1 75 yX4_minutesFor "BallastTrack") U ∧ va_Nw (.methodLinkNest RX2 63 yX4_isWithin "BallastTrack") U ∧ va_Nw (.fieldLinkNest RX1 40 "BallastTrack" "FIRST_NUMBERS" "[I" "BallastTrack") U
theorem NWs.same {u U : State} (e : u.vm = U.vm) (h : NWs u) : NWs U := ⟨h.1.same rfl e, h.2.1.same rfl e, h.2.2.1.same rfl e, h.2.2.2.1.same rfl e, h.2.2.2.2.same rfl e⟩
theorem NWs.warm {s U : State} (hW : s.WarmedH U.vm) (h : NWs s) : NWs U := ⟨va_Nw.warmM hW h.1, va_Nw.warmM hW h.2.1, va_Nw.warmM hW h.2.2.1, va_Nw.warmM hW h.2.2.2.1, va_Nw.warmF hW h.2.2.2.2⟩
def PRE (D : va_G) (cT : Nat → ClassId) (sz : Nat) (W : va_W) (U : State) : Prop := U.heap.size = sz ∧ va_P D vwCl W U.heap ∧ va_K D vwCl (ty4 cT) U ∧ va_D (fun _ => True) W ∧ NWs U ∧ STs (va_A W sz) U U.heap
abbrev QI (D : va_G) (r0 : Int32) (W : va_W) (A : Nat → Prop) : Array Value → State → Outcome → State → Prop := va_Qi (fun (r : Int32) (_ : Unit) => r = r0) (fun (_ : Unit) (t : State) => va_P D vwCl W t.heap) A
abbrev QL (D : va_G) (r0 : Int64) (W : va_W) (A : Nat → Prop) : Array Value → State → Outcome → State → Prop := va_Ql (fun (r : Int64) (_ : Unit) => r = r0) (fun (_ : Unit) (t : State) => va_P D vwCl W t.heap) A
abbrev QV (D : va_G) (W : va_W) (A : Nat → Prop) : Array Value → State → Outcome → State → Prop := va_Qv (fun (_ : Unit) => True) (fun (_ : Unit) (t : State) => va_P D vwCl W t.heap) A
theorem PRE_blind {av : List Value} {D : va_G} {cT : Nat → ClassId} {sz : Nat} {W : va_W} : FrameBlind (va_Pc av (PRE D cT sz W)) := fun a U g mk q => by
  obtain ⟨q0, q1, qP, qK, qD, qN, qZ⟩ := q
  exact ⟨q0, q1, qP, va_K.moved (u := U) (U := U.calling g mk a) (Vm.Alike.refl U.vm) qK, qD, NWs.same (u := U) (U := U.calling g mk a) rfl qN, STs.to (u := U) (U := U.calling g mk a) qZ (Vm.Alike.refl U.vm) (fun _ _ _ => rfl) (fun _ h => h)⟩
theorem PRE_ok {av : List Value} {D : va_G} {cT : Nat → ClassId} {A : Nat → Prop} {B : List va_W} {H : Heap} {locs : List Loc} {s : State} (is : List Nat) (hn : is.Nodup) (hP : va_P D vwCl B.flatten H) (hD : va_D A B.flatten) (hA : ∀ q, s.heap.size ≤ q → A q) (hS : va_S A s.heap H locs) (hK : va_K D vwCl (ty4 cT) s) (hN : NWs s) (hZ : STs A s s.heap) :
    ∀ U : State, U.heap = H → s.WarmedH U.vm → va_Pc av (PRE D cT H.size (pick B is).flatten) av.toArray U := by
  intro U hU hW
  refine ⟨rfl, by rw [hU], by rw [hU]; exact pick_P hP is, va_K.moved hW.alike hK, pick_D hD is hn (fun _ _ _ => trivial), hN.warm hW, ?_⟩
  rw [hU]
  exact hZ.to hW.alike hS.2.1 (fun q h => pick_A (sz := H.size) hD (fun z hz => hA z (Nat.le_trans hS.1 hz)) is h)
section CL
variable {p : Program} {l : Launch} {e : Env} {R : Room} {s : State} {m : MethodId} {args : Array Value} {below : List Frame} {meth : Method} {c : Code} {H : Heap} {locs : List Loc} {Q : State → Prop}
variable {pc : Nat} {ls : Array Slot} {rest st0 : List Value} {a : Array Value} {A : Nat → Prop} {D : va_G} {B B1 : List va_W}
theorem cl_i {r0 : Int32} (isC isR : List Nat) (B1 : List va_W) (hP : va_P D vwCl B.flatten H) (hD : va_D A B.flatten) (hA : ∀ q, s.heap.size ≤ q → A q) (hS : va_S A s.heap H locs)
    (hr : va_Run p l e R s m args below meth c H locs 0 0 0 0 (F0 m pc ls st0) rest (QI D r0 (pick B1 isC).flatten (va_A (pick B isC).flatten H.size) a) (va_A (pick B isC).flatten H.size))
    (hR : pick B1 isR = pick B isR) (N : Nat) (hN : B1.length = N) (hall : ∀ i, i < N → i ∈ isC ∨ i ∈ isR) (hn : (isC ++ isR).Nodup)
    (k : ∀ (H1 : Heap) (locs1 : List Loc), va_P D vwCl B1.flatten H1 → va_S A s.heap H1 locs1 → W p l e R s m args below meth c H1 locs1 0 0 Q (F0 m (pc + 3) ls (.int r0 :: rest))) : W p l e R s m args below meth c H locs 0 0 Q (F0 m pc ls st0) := by
  have hF : ∀ q, va_A (pick B isC).flatten H.size q → A q := fun q h => pick_A (sz := H.size) hD (fun z hz => hA z (Nat.le_trans hS.1 hz)) isC h
  refine va_calli hr hS (fun q _ h => hF q h) hF (fun r u t H1 locs1 ht hvm hw hB hz hk hS1 => ?_)
  subst hw
  rw [ht] at hB
  exact k H1 locs1 (blk_join isC isR hP hD hk hB hR N hN hall hn) hS1
theorem cl_v (isC isR : List Nat) (B1 : List va_W) (hP : va_P D vwCl B.flatten H) (hD : va_D A B.flatten) (hA : ∀ q, s.heap.size ≤ q → A q) (hS : va_S A s.heap H locs)
    (hr : va_Run p l e R s m args below meth c H locs 0 0 0 0 (F0 m pc ls st0) rest (QV D (pick B1 isC).flatten (va_A (pick B isC).flatten H.size) a) (va_A (pick B isC).flatten H.size))
    (hR : pick B1 isR = pick B isR) (N : Nat) (hN : B1.length = N) (hall : ∀ i, i < N → i ∈ isC ∨ i ∈ isR) (hn : (isC ++ isR).Nodup)
    (k : ∀ (H1 : Heap) (locs1 : List Loc), va_P D vwCl B1.flatten H1 → va_S A s.heap H1 locs1 → W p l e R s m args below meth c H1 locs1 0 0 Q (F0 m (pc + 3) ls rest)) : W p l e R s m args below meth c H locs 0 0 Q (F0 m pc ls st0) := by
  have hF : ∀ q, va_A (pick B isC).flatten H.size q → A q := fun q h => pick_A (sz := H.size) hD (fun z hz => hA z (Nat.le_trans hS.1 hz)) isC h
  refine va_callv hr hS (fun q _ h => hF q h) hF (fun u t H1 locs1 ht hvm hw hB hz hk hS1 => ?_)
  rw [ht] at hB
  exact k H1 locs1 (blk_join isC isR hP hD hk hB hR N hN hall hn) hS1
theorem en_i {cc : ByteArray} {v : Int32} {Wd : va_W} (hx : p.tables.exec = Jvm.exec) (hb : c.code = cc) (hr : meth.sig.returnType = some .int) (hP : va_P D vwCl Wd H) (hS : va_S A s.heap H locs) (hlocks : meth.locks = false) (hdg : decode cc pc = .ok (.ireturn, 1)) : W p l e R s m args below meth c H locs 0 0 (MQ below (QI D v Wd A) args s 0 0 A) (F0 m pc ls [.int v]) :=
  W.iret (v := v) hx hb hr (fun t ht hW => ⟨⟨v, (), rfl, rfl, by show va_P D vwCl Wd t.heap; rw [ht]; exact hP⟩, hS.F ht⟩) hS.2.2 hdg hlocks
theorem en_z {cc : ByteArray} {v : Bool} {Wd : va_W} (hx : p.tables.exec = Jvm.exec) (hb : c.code = cc) (hr : meth.sig.returnType = some .boolean) (hP : va_P D vwCl Wd H) (hS : va_S A s.heap H locs) (hlocks : meth.locks = false) (hdg : decode cc pc = .ok (.ireturn, 1)) : W p l e R s m args below meth c H locs 0 0 (MQ below (QI D (bI v) Wd A) args s 0 0 A) (F0 m pc ls [.int (bI v)]) :=
  W.zret (v := bI v) hx hb hr (nar_bI v) (fun t ht hW => ⟨⟨bI v, (), rfl, rfl, by show va_P D vwCl Wd t.heap; rw [ht]; exact hP⟩, hS.F ht⟩) hS.2.2 hdg hlocks
theorem en_v {cc : ByteArray} {Wd : va_W} (hx : p.tables.exec = Jvm.exec) (hb : c.code = cc) (hr : meth.sig.returnType = none) (hP : va_P D vwCl Wd H) (hS : va_S A s.heap H locs) (hlocks : meth.locks = false) (hdg : decode cc pc = .ok (.return_, 1)) : W p l e R s m args below meth c H locs 0 0 (MQ below (QV D Wd A) args s 0 0 A) (F0 m pc ls []) :=
  W.vret hx hb hr (fun t ht hW => ⟨⟨(), rfl, trivial, by show va_P D vwCl Wd t.heap; rw [ht]; exact hP⟩, hS.F ht⟩) hS.2.2 hdg hlocks
theorem en_l {cc : ByteArray} {v : Int64} {Wd : va_W} (hx : p.tables.exec = Jvm.exec) (hb : c.code = cc) (hr : meth.sig.returnType = some .long) (hP : va_P D vwCl Wd H) (hS : va_S A s.heap H locs) (hlocks : meth.locks = false) (hdg : decode cc pc = .ok (.lreturn, 1)) : W p l e R s m args below meth c H locs 0 0 (MQ below (QL D v Wd A) args s 0 0 A) (F0 m pc ls [.long v]) :=
  W.lret (v := v) hx hb hr (fun t ht hW => ⟨⟨v, (), rfl, rfl, by show va_P D vwCl Wd t.heap; rw [ht]; exact hP⟩, hS.F ht⟩) hS.2.2 hdg hlocks
end CL
section CLL
variable {p : Program} {l : Launch} {e : Env} {R : Room} {s : State} {m : MethodId} {args : Array Value} {below : List Frame} {meth : Method} {c : Code} {H : Heap} {locs : List Loc} {Q : State → Prop} {cells slots : Nat}
variable {pc : Nat} {ls : Array Slot} {rest st0 : List Value} {a : Array Value} {A : Nat → Prop} {D : va_G} {B B1 : List va_W}
theorem cl_iL {r0 : Int32} (isC isR : List Nat) (B1 : List va_W) (hP : va_P D vwCl B.flatten H) (hD : va_D A B.flatten) (hA : ∀ q, s.heap.size ≤ q → A q) (hS : va_S A s.heap H locs)
    (hr : va_Run p l e R s m args below meth c H locs cells slots 0 0 (F0 m pc ls st0) rest (QI D r0 (pick B1 isC).flatten (va_A (pick B isC).flatten H.size) a) (va_A (pick B isC).flatten H.size))
    (hR : pick B1 isR = pick B isR) (N : Nat) (hN : B1.length = N) (hall : ∀ i, i < N → i ∈ isC ∨ i ∈ isR) (hn : (isC ++ isR).Nodup)
    (k : ∀ (H1 : Heap) (locs1 : List Loc), va_P D vwCl B1.flatten H1 → va_S A s.heap H1 locs1 → W p l e R s m args below meth c H1 locs1 cells slots Q (F0 m (pc + 3) ls (.int r0 :: rest))) : W p l e R s m args below meth c H locs cells slots Q (F0 m pc ls st0) := by
  have hF : ∀ q, va_A (pick B isC).flatten H.size q → A q := fun q h => pick_A (sz := H.size) hD (fun z hz => hA z (Nat.le_trans hS.1 hz)) isC h
  refine va_calli hr hS (fun q _ h => hF q h) hF (fun r u t H1 locs1 ht hvm hw hB hz hk hS1 => ?_)
  subst hw
  rw [ht] at hB
  exact k H1 locs1 (blk_join isC isR hP hD hk hB hR N hN hall hn) hS1
theorem cl_lL {r0 : Int64} (isC isR : List Nat) (B1 : List va_W) (hP : va_P D vwCl B.flatten H) (hD : va_D A B.flatten) (hA : ∀ q, s.heap.size ≤ q → A q) (hS : va_S A s.heap H locs)
    (hr : va_Run p l e R s m args below meth c H locs cells slots 0 0 (F0 m pc ls st0) rest (QL D r0 (pick B1 isC).flatten (va_A (pick B isC).flatten H.size) a) (va_A (pick B isC).flatten H.size))
    (hR : pick B1 isR = pick B isR) (N : Nat) (hN : B1.length = N) (hall : ∀ i, i < N → i ∈ isC ∨ i ∈ isR) (hn : (isC ++ isR).Nodup)
    (k : ∀ (H1 : Heap) (locs1 : List Loc), va_P D vwCl B1.flatten H1 → va_S A s.heap H1 locs1 → W p l e R s m args below meth c H1 locs1 cells slots Q (F0 m (pc + 3) ls (.long r0 :: rest))) : W p l e R s m args below meth c H locs cells slots Q (F0 m pc ls st0) := by
  have hF : ∀ q, va_A (pick B isC).flatten H.size q → A q := fun q h => pick_A (sz := H.size) hD (fun z hz => hA z (Nat.le_trans hS.1 hz)) isC h
  refine va_calll hr hS (fun q _ h => hF q h) hF (fun r u t H1 locs1 ht hvm hw hB hz hk hS1 => ?_)
  subst hw
  rw [ht] at hB
  exact k H1 locs1 (blk_join isC isR hP hD hk hB hR N hN hall hn) hS1
end CLL
/-! a method that reads the script -/
def PREX (D : va_G) (cT : Nat → ClassId) (sz b L : Nat) (xs : Nat → Int32) (U : State) : Prop := PRE D cT sz [] U ∧ va_X b L xs U U.heap ∧ b < sz
theorem PREX_blind {av : List Value} {D : va_G} {cT : Nat → ClassId} {sz b L : Nat} {xs : Nat → Int32} : FrameBlind (va_Pc av (PREX D cT sz b L xs)) := fun a U g mk q => by
  obtain ⟨q0, q1, q2, q3⟩ := q
  have h := PRE_blind (av := av) (D := D) (cT := cT) (sz := sz) (W := []) a U g mk ⟨q0, q1⟩
  exact ⟨h.1, h.2, va_X.moved (u := U) (U := U.calling g mk a) (Vm.Alike.refl U.vm) q2, q3⟩
theorem PREX_ok {av : List Value} {D : va_G} {cT : Nat → ClassId} {A : Nat → Prop} {B : List va_W} {H : Heap} {locs : List Loc} {s : State} {b L : Nat} {xs : Nat → Int32} (hP : va_P D vwCl B.flatten H) (hD : va_D A B.flatten) (hA : ∀ q, s.heap.size ≤ q → A q) (hS : va_S A s.heap H locs) (hK : va_K D vwCl (ty4 cT) s) (hN : NWs s) (hZ : STs A s s.heap) (hX : va_X b L xs s s.heap) (hbl : b < s.heap.size) (hbA : ¬ A b) :
    ∀ U : State, U.heap = H → s.WarmedH U.vm → va_Pc av (PREX D cT H.size b L xs) av.toArray U := by
  intro U hU hW
  have h := PRE_ok (av := av) [] (by decide) hP hD hA hS hK hN hZ U hU hW
  refine ⟨h.1, h.2, ?_, Nat.lt_of_lt_of_le hbl hS.1⟩
  rw [hU]
  exact (hX.kept (hS.2.1 b hbl hbA)).moved hW.alike
