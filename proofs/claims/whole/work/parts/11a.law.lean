/-! THE CLAIM OUT OF ONE WALK OF THE LAW'S BODY. Your part is whole_start (and what it stands on); all else here is the same for every law, but numbers. -/
def R_law : String := "BallastTrackLaw"
def lw_P (b : Addr) (xs : List Int32) (args : Array Value) (s : State) : Prop := args = #[.ref b] ∧ s.IntsAt b xs ∧ xs.length ≤ 2048 ∧ (Jvm.Cond.and given_1 narrow_1).before args s = true
def lw_Q (_ : Array Value) (s : State) (o : Outcome) (t : State) : Prop := o = .returned (some (.int 1)) ∧ Framed s o t [] 600000 7302250
def lw_Z (below : List Frame) (a : Array Value) (s : State) : State → Prop := fun t => ∃ o, t.status = .running ∧ Ended t below o ∧ lw_Q a s o t
/-- the law's own end, with 1 on the stack, nothing written that was there before, its room as the claim has it -/
theorem lw_ret {p : Program} {l : Launch} {e : Env} {s : State} {m : MethodId} {below : List Frame} {meth : Method} {c : Code} {b : Nat} (hx : p.tables.exec = Jvm.exec) (hb : c.code = code) (hr : meth.sig.returnType = ret) (hlocks : meth.locks = false) {pc : Nat} {H : Heap} {ls : Array Slot} (hdg : decode code pc = .ok (.ireturn, 1)) : W p l e room_1 s m #[Value.ref b] below meth c H [] 600000 7302250 (lw_Z below #[Value.ref b] s) (F0 m pc ls [.int 1]) := by
  intro T hT X
  obtain ⟨fs, hret, hrun, hended, hW, hframe⟩ := X.leave (v := some (.int 1)) (hlocks := hlocks) (fun h => by rw [hr] at h; cases h)
  have hmeth' : T.vm.method? m = some meth := X.method'
  refine ⟨T.setFrames fs, ?_, .returned (some (.int 1)), hrun, hended, rfl, ⟨_, rfl⟩, hW, hframe⟩
  jvm_step X.here [X.here.top, hx, hb, hdg, hmeth', hr, ret, narrow_b1]
  (try refine ⟨rfl, ?_⟩); (try refine ⟨rfl, ?_⟩)
  first | (intro acts; rw [hret _ acts rfl rfl rfl]) | rw [hret _ _ rfl rfl rfl]
  exact Steps.refl _
/-- what holds at the law's entry: the machine, the code, the tables' words (any of lw_tbl by 'hts w (by decide +kernel)'), the script of L ints xs at the cell b, what the Statement gives of the start (any of its parts by flat_of_before) -/
def lw_At (p : Program) (s : State) (m : MethodId) (meth : Method) (c : Code) (b L : Nat) (xs : Nat → Int32) : Prop :=
  p.tables.exec = Jvm.exec ∧ c.code = code ∧ meth.sig.returnType = ret ∧ c.maxLocals = 4 ∧ s.vm.findClass R_law = some m.cls ∧ (∀ w ∈ lw_tbl, w.before #[Value.ref b] s = true) ∧ va_X b L xs s s.heap ∧ b < s.heap.size ∧ meth.locks = false ∧ (Jvm.Cond.and given_1 narrow_1).before #[Value.ref b] s = true

section CLL
variable {p : Program} {l : Launch} {e : Env} {R : Room} {s : State} {m : MethodId} {args : Array Value} {below : List Frame} {meth : Method} {c : Code} {H : Heap} {locs : List Loc} {Q : State → Prop} {cells slots : Nat}
variable {pc : Nat} {ls : Array Slot} {rest st0 : List Value} {a : Array Value} {A : Nat → Prop} {D : va_G} {B B1 : List va_W}
theorem cl_iL {r0 : Int32} (isC isR : List Nat) (B1 : List va_W) (hP : va_P D vwCl B.flatten H) (hD : va_D A B.flatten) (hA : ∀ q, s.heap.size ≤ q → A q) (hS : va_S A s.heap H locs)
    (hr : va_Run p l e R s m args below meth c H locs cells slots 0 0 (F0 m pc ls st0) rest (QI D r0 (pick B1 isC).flatten (va_A (pick B isC).flatten H.size) a) (va_A (pick B isC).flatten H.size))
    (hR : pick B1 isR = pick B isR) (N : Nat) (hN : B1.length = N) (hall : ∀ i, i < N → i ∈ isC ∨ i ∈ isR) (hn : (isC ++ isR).Nodup)
    (k : ∀ (H1 : Heap) (locs1 : List Loc), va_P D vwCl B1.flatten H1 → va_S A s.heap H1 locs1 → W p l e R s m args below meth c H1 locs1 cells slots Q (F0 m (pc + 3) ls (.int r0 :: rest))) : W p l e R s m args below meth c H locs cells slots Q (F0 m pc ls st0) := by
  have hF : ∀ q, va_A (pick B isC).flatten H.size q → A q := fun q h => pick_A (sz := H.size) hD (fun z hz => hA z (Nat.le_trans hS.1 hz)) isC h
  refine va_calli hr hS (fun q _ h => hF q h) hF (fun r u t H1 locs1 ht hvm hw hB hz hk hS1 => ?_)
  subst hw
  rw [ht] at hB
  exact k H1 locs1 (blk_join isC isR hP hD hk hB hR N hN hall hn) hS1
end CLL

theorem lx_t {k L : Nat} (hk : k < 1000000) (hL : L < 1000000) : (nI L - 4 : Int32).toInt = (L : Int) - 4 ∧ (nI k).toInt = (k : Int) := by
  refine ⟨?_, nI_toInt (by omega)⟩
  rw [Int32.toInt_sub, nI_toInt (by omega)]
  show ((L : Int) - (4 : Int)).bmod (2 ^ 32) = _
  rw [Int.bmod_eq_of_le (by omega) (by omega)]
theorem lx_le {k L : Nat} (h : ¬ (nI L - 4 : Int32) < nI k) (hk : k < 1000000) (hL : L < 1000000) : k + 4 ≤ L := by
  obtain ⟨h1, h2⟩ := lx_t hk hL
  rw [Int32.lt_iff_toInt_lt, h1, h2] at h
  omega
theorem lx_gt {k L : Nat} (h : L < k) (hk : k < 1000000) (hL : L < 1000000) : (nI L - 4 : Int32) < nI k := by
  obtain ⟨h1, h2⟩ := lx_t hk hL
  rw [Int32.lt_iff_toInt_lt, h1, h2]
  omega

