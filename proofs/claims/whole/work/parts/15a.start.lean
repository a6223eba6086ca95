/-! the start, and the claim -/
theorem i_ss {k : Nat} (h : 9 ≤ k) : M_ss i_M k = 0 := by
  show upd (upd (upd (upd (upd (upd (upd (upd (upd nil0 0 40) 1 4) 2 10) 3 3) 4 20) 5 40) 6 80) 7 200) 8 5 k = 0
  rw [pk_un (by omega), pk_un (by omega), pk_un (by omega), pk_un (by omega), pk_un (by omega), pk_un (by omega), pk_un (by omega), pk_un (by omega), pk_un (by omega)]
  rfl
theorem TR_i : TR i_S (M_ss i_M) := by
  refine ⟨by decide +kernel, fun k hk => ?_, fun k hk => ?_, ?_, fun k hk => ?_, fun k hk => ?_, fun k hk => ?_, fun k hk => ?_, fun k hk hj => ?_⟩
  · exact (show ∀ k, k < 8 → S_nu i_S k = M_ss i_M (1 + k) by decide +kernel) k hk
  · rw [i_ss (by omega)]
    rfl
  · rw [i_ss (by omega)]
    rfl
  · rw [i_ss (by omega)]
    rfl
  · rw [i_ss (by omega)]
    rfl
  · rw [i_ss (by omega)]
    rfl
  · rw [i_ss (by omega)]
    rfl
  · rw [i_ss (by omega)]
    rfl
theorem TI_i : TI i_S := by
  refine ⟨?_, ⟨?_, ?_, ?_, ?_, ?_, ?_⟩, fun k hk => ?_, fun k hk => ?_, ?_, fun j hj => ?_⟩
  · unfold rg
    decide +kernel
  · unfold rg
    decide +kernel
  · unfold rg
    decide +kernel
  · unfold rg
    decide +kernel
  · decide +kernel
  · unfold rg
    decide +kernel
  · unfold rg
    decide +kernel
  · show rg (0 : Int32) (-9999) 9999
    unfold rg
    decide
  · show rg (0 : Int32) 0 100
    unfold rg
    decide
  · show rg (0 : Int32) 0 6
    unfold rg
    decide
  · exfalso
    have hj2 : (j : Int) < (0 : Int32).toInt := hj
    rw [z_0] at hj2
    omega
theorem RR_i : RR i_C i_M := by
  refine ⟨TR_i, TI_i, ⟨0, 0, rfl, by omega, rfl, by omega, rfl, fun i hi => absurd hi (by omega)⟩, ⟨0, 0, by omega, by omega, rfl, rfl, rfl, fun e => absurd e (by decide), fun e => absurd e (by decide)⟩, 0, by omega, rfl, rfl, fun k hk => absurd hk (by omega)⟩
theorem whole_start {p : Program} {e : Env} {s : State} {m : MethodId} {below : List Frame} {meth : Method} {c : Code} (l : Launch) (_ : l.flags = flags0) {b L : Nat} {xs : Nat → Int32} (hL : L ≤ 2048) (C0 : lw_At p s m meth c b L xs) : W p l e room_1 s m #[Value.ref b] below meth c s.heap [] 0 0 (lw_Z below #[Value.ref b] s) (entryFrame m ([Value.ref b] : List Value).toArray 4) :=
  start_open l hL C0 (RR := RR) (fu := 2000) RR_i (op_begin (Nat.le_refl 2000)) (op_setNumber (Nat.le_refl 2000)) (op_setLevel (Nat.le_refl 2000)) op_appendCharacter op_clearText (op_load (Nat.le_refl 2000)) (op_renew (Nat.le_refl 2000)) (op_addJob (Nat.le_refl 2000)) (op_cancelJobs (Nat.le_refl 2000)) (op_work (Nat.le_refl 2000)) (op_trains (Nat.le_refl 2000)) (op_keep (Nat.le_refl 2000)) (op_back (Nat.le_refl 2000)) (op_undo (Nat.le_refl 2000)) (op_count (Nat.le_refl 2000)) (op_sleeper (Nat.le_refl 2000)) op_job op_account (op_rail (Nat.le_refl 2000)) (op_why (Nat.le_refl 2000)) op_lifts (op_trainsUntil (Nat.le_refl 2000)) (op_bestRow (Nat.le_refl 2000)) (op_minutesLeft (Nat.le_refl 2000))
