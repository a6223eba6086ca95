abbrev TC : Type := TS × TV × TS × TV × TH × TS × TS × TS × TS × TS × TS × TX × (Nat → Int32) × TS × TS
def C_now (u : TC) : TS := u.1
def C_sv (u : TC) : TV := u.2.1
def C_tr (u : TC) : TS := u.2.2.1
def C_ts (u : TC) : TV := u.2.2.2.1
def C_hi (u : TC) : TH := u.2.2.2.2.1
def C_r0 (u : TC) : TS := u.2.2.2.2.2.1
def C_r1 (u : TC) : TS := u.2.2.2.2.2.2.1
def C_r2 (u : TC) : TS := u.2.2.2.2.2.2.2.1
def C_r3 (u : TC) : TS := u.2.2.2.2.2.2.2.2.1
def C_r4 (u : TC) : TS := u.2.2.2.2.2.2.2.2.2.1
def C_r5 (u : TC) : TS := u.2.2.2.2.2.2.2.2.2.2.1
def C_tx (u : TC) : TX := u.2.2.2.2.2.2.2.2.2.2.2.1
def C_kp (u : TC) : (Nat → Int32) := u.2.2.2.2.2.2.2.2.2.2.2.2.1
def C_i0 (u : TC) : TS := u.2.2.2.2.2.2.2.2.2.2.2.2.2.1
def C_i1 (u : TC) : TS := u.2.2.2.2.2.2.2.2.2.2.2.2.2.2
def C_now_ (u : TC) (x : TS) : TC := (x, u.2.1, u.2.2.1, u.2.2.2.1, u.2.2.2.2.1, u.2.2.2.2.2.1, u.2.2.2.2.2.2.1, u.2.2.2.2.2.2.2.1, u.2.2.2.2.2.2.2.2.1, u.2.2.2.2.2.2.2.2.2.1, u.2.2.2.2.2.2.2.2.2.2.1, u.2.2.2.2.2.2.2.2.2.2.2.1, u.2.2.2.2.2.2.2.2.2.2.2.2.1, u.2.2.2.2.2.2.2.2.2.2.2.2.2.1, u.2.2.2.2.2.2.2.2.2.2.2.2.2.2)
def C_sv_ (u : TC) (x : TV) : TC := (u.1, x, u.2.2.1, u.2.2.2.1, u.2.2.2.2.1, u.2.2.2.2.2.1, u.2.2.2.2.2.2.1, u.2.2.2.2.2.2.2.1, u.2.2.2.2.2.2.2.2.1, u.2.2.2.2.2.2.2.2.2.1, u.2.2.2.2.2.2.2.2.2.2.1, u.2.2.2.2.2.2.2.2.2.2.2.1, u.2.2.2.2.2.2.2.2.2.2.2.2.1, u.2.2.2.2.2.2.2.2.2.2.2.2.2.1, u.2.2.2.2.2.2.2.2.2.2.2.2.2.2)
def C_tr_ (u : TC) (x : TS) : TC := (u.1, u.2.1, x, u.2.2.2.1, u.2.2.2.2.1, u.2.2.2.2.2.1, u.2.2.2.2.2.2.1, u.2.2.2.2.2.2.2.1, u.2.2.2.2.2.2.2.2.1, u.2.2.2.2.2.2.2.2.2.1, u.2.2.2.2.2.2.2.2.2.2.1, u.2.2.2.2.2.2.2.2.2.2.2.1, u.2.2.2.2.2.2.2.2.2.2.2.2.1, u.2.2.2.2.2.2.2.2.2.2.2.2.2.1, u.2.2.2.2.2.2.2.2.2.2.2.2.2.2)
def C_ts_ (u : TC) (x : TV) : TC := (u.1, u.2.1, u.2.2.1, x, u.2.2.2.2.1, u.2.2.2.2.2.1, u.2.2.2.2.2.2.1, u.2.2.2.2.2.2.2.1, u.2.2.2.2.2.2.2.2.1, u.2.2.2.2.2.2.2.2.2.1, u.2.2.2.2.2.2.2.2.2.2.1, u.2.2.2.2.2.2.2.2.2.2.2.1, u.2.2.2.2.2.2.2.2.2.2.2.2.1, u.2.2.2.2.2.2.2.2.2.2.2.2.2.1, u.2.2.2.2.2.2.2.2.2.2.2.2.2.2)
def C_hi_ (u : TC) (x : TH) : TC := (u.1, u.2.1, u.2.2.1, u.2.2.2.1, x, u.2.2.2.2.2.1, u.2.2.2.2.2.2.1, u.2.2.2.2.2.2.2.1, u.2.2.2.2.2.2.2.2.1, u.2.2.2.2.2.2.2.2.2.1, u.2.2.2.2.2.2.2.2.2.2.1, u.2.2.2.2.2.2.2.2.2.2.2.1, u.2.2.2.2.2.2.2.2.2.2.2.2.1, u.2.2.2.2.2.2.2.2.2.2.2.2.2.1, u.2.2.2.2.2.2.2.2.2.2.2.2.2.2)
def C_r0_ (u : TC) (x : TS) : TC := (u.1, u.2.1, u.2.2.1, u.2.2.2.1, u.2.2.2.2.1, x, u.2.2.2.2.2.2.1, u.2.2.2.2.2.2.2.1, u.2.2.2.2.2.2.2.2.1, u.2.2.2.2.2.2.2.2.2.1, u.2.2.2.2.2.2.2.2.2.2.1, u.2.2.2.2.2.2.2.2.2.2.2.1, u.2.2.2.2.2.2.2.2.2.2.2.2.1, u.2.2.2.2.2.2.2.2.2.2.2.2.2.1, u.2.2.2.2.2.2.2.2.2.2.2.2.2.2)
def C_r1_ (u : TC) (x : TS) : TC := (u.1, u.2.1, u.2.2.1, u.2.2.2.1, u.2.2.2.2.1, u.2.2.2.2.2.1, x, u.2.2.2.2.2.2.2.1, u.2.2.2.2.2.2.2.2.1, u.2.2.2.2.2.2.2.2.2.1, u.2.2.2.2.2.2.2.2.2.2.1, u.2.2.2.2.2.2.2.2.2.2.2.1, u.2.2.2.2.2.2.2.2.2.2.2.2.1, u.2.2.2.2.2.2.2.2.2.2.2.2.2.1, u.2.2.2.2.2.2.2.2.2.2.2.2.2.2)
def C_r2_ (u : TC) (x : TS) : TC := (u.1, u.2.1, u.2.2.1, u.2.2.2.1, u.2.2.2.2.1, u.2.2.2.2.2.1, u.2.2.2.2.2.2.1, x, u.2.2.2.2.2.2.2.2.1, u.2.2.2.2.2.2.2.2.2.1, u.2.2.2.2.2.2.2.2.2.2.1, u.2.2.2.2.2.2.2.2.2.2.2.1, u.2.2.2.2.2.2.2.2.2.2.2.2.1, u.2.2.2.2.2.2.2.2.2.2.2.2.2.1, u.2.2.2.2.2.2.2.2.2.2.2.2.2.2)
def C_r3_ (u : TC) (x : TS) : TC := (u.1, u.2.1, u.2.2.1, u.2.2.2.1, u.2.2.2.2.1, u.2.2.2.2.2.1, u.2.2.2.2.2.2.1, u.2.2.2.2.2.2.2.1, x, u.2.2.2.2.2.2.2.2.2.1, u.2.2.2.2.2.2.2.2.2.2.1, u.2.2.2.2.2.2.2.2.2.2.2.1, u.2.2.2.2.2.2.2.2.2.2.2.2.1, u.2.2.2.2.2.2.2.2.2.2.2.2.2.1, u.2.2.2.2.2.2.2.2.2.2.2.2.2.2)
def C_r4_ (u : TC) (x : TS) : TC := (u.1, u.2.1, u.2.2.1, u.2.2.2.1, u.2.2.2.2.1, u.2.2.2.2.2.1, u.2.2.2.2.2.2.1, u.2.2.2.2.2.2.2.1, u.2.2.2.2.2.2.2.2.1, x, u.2.2.2.2.2.2.2.2.2.2.1, u.2.2.2.2.2.2.2.2.2.2.2.1, u.2.2.2.2.2.2.2.2.2.2.2.2.1, u.2.2.2.2.2.2.2.2.2.2.2.2.2.1, u.2.2.2.2.2.2.2.2.2.2.2.2.2.2)
def C_r5_ (u : TC) (x : TS) : TC := (u.1, u.2.1, u.2.2.1, u.2.2.2.1, u.2.2.2.2.1, u.2.2.2.2.2.1, u.2.2.2.2.2.2.1, u.2.2.2.2.2.2.2.1, u.2.2.2.2.2.2.2.2.1, u.2.2.2.2.2.2.2.2.2.1, x, u.2.2.2.2.2.2.2.2.2.2.2.1, u.2.2.2.2.2.2.2.2.2.2.2.2.1, u.2.2.2.2.2.2.2.2.2.2.2.2.2.1, u.2.2.2.2.2.2.2.2.2.2.2.2.2.2)
def C_tx_ (u : TC) (x : TX) : TC := (u.1, u.2.1, u.2.2.1, u.2.2.2.1, u.2.2.2.2.1, u.2.2.2.2.2.1, u.2.2.2.2.2.2.1, u.2.2.2.2.2.2.2.1, u.2.2.2.2.2.2.2.2.1, u.2.2.2.2.2.2.2.2.2.1, u.2.2.2.2.2.2.2.2.2.2.1, x, u.2.2.2.2.2.2.2.2.2.2.2.2.1, u.2.2.2.2.2.2.2.2.2.2.2.2.2.1, u.2.2.2.2.2.2.2.2.2.2.2.2.2.2)
def C_kp_ (u : TC) (x : (Nat → Int32)) : TC := (u.1, u.2.1, u.2.2.1, u.2.2.2.1, u.2.2.2.2.1, u.2.2.2.2.2.1, u.2.2.2.2.2.2.1, u.2.2.2.2.2.2.2.1, u.2.2.2.2.2.2.2.2.1, u.2.2.2.2.2.2.2.2.2.1, u.2.2.2.2.2.2.2.2.2.2.1, u.2.2.2.2.2.2.2.2.2.2.2.1, x, u.2.2.2.2.2.2.2.2.2.2.2.2.2.1, u.2.2.2.2.2.2.2.2.2.2.2.2.2.2)
def C_i0_ (u : TC) (x : TS) : TC := (u.1, u.2.1, u.2.2.1, u.2.2.2.1, u.2.2.2.2.1, u.2.2.2.2.2.1, u.2.2.2.2.2.2.1, u.2.2.2.2.2.2.2.1, u.2.2.2.2.2.2.2.2.1, u.2.2.2.2.2.2.2.2.2.1, u.2.2.2.2.2.2.2.2.2.2.1, u.2.2.2.2.2.2.2.2.2.2.2.1, u.2.2.2.2.2.2.2.2.2.2.2.2.1, x, u.2.2.2.2.2.2.2.2.2.2.2.2.2.2)
def C_i1_ (u : TC) (x : TS) : TC := (u.1, u.2.1, u.2.2.1, u.2.2.2.1, u.2.2.2.2.1, u.2.2.2.2.2.1, u.2.2.2.2.2.2.1, u.2.2.2.2.2.2.2.1, u.2.2.2.2.2.2.2.2.1, u.2.2.2.2.2.2.2.2.2.1, u.2.2.2.2.2.2.2.2.2.2.1, u.2.2.2.2.2.2.2.2.2.2.2.1, u.2.2.2.2.2.2.2.2.2.2.2.2.1, u.2.2.2.2.2.2.2.2.2.2.2.2.2.1, x)
theorem C_now_now (u : TC) (x : TS) : C_now (C_now_ u x) = x := rfl
theorem C_now_sv (u : TC) (x : TS) : C_sv (C_now_ u x) = C_sv u := rfl
theorem C_now_tr (u : TC) (x : TS) : C_tr (C_now_ u x) = C_tr u := rfl
theorem C_now_ts (u : TC) (x : TS) : C_ts (C_now_ u x) = C_ts u := rfl
theorem C_now_hi (u : TC) (x : TS) : C_hi (C_now_ u x) = C_hi u := rfl
theorem C_now_r0 (u : TC) (x : TS) : C_r0 (C_now_ u x) = C_r0 u := rfl
theorem C_now_r1 (u : TC) (x : TS) : C_r1 (C_now_ u x) = C_r1 u := rfl
theorem C_now_r2 (u : TC) (x : TS) : C_r2 (C_now_ u x) = C_r2 u := rfl
theorem C_now_r3 (u : TC) (x : TS) : C_r3 (C_now_ u x) = C_r3 u := rfl
theorem C_now_r4 (u : TC) (x : TS) : C_r4 (C_now_ u x) = C_r4 u := rfl
theorem C_now_r5 (u : TC) (x : TS) : C_r5 (C_now_ u x) = C_r5 u := rfl
theorem C_now_tx (u : TC) (x : TS) : C_tx (C_now_ u x) = C_tx u := rfl
theorem C_now_kp (u : TC) (x : TS) : C_kp (C_now_ u x) = C_kp u := rfl
theorem C_now_i0 (u : TC) (x : TS) : C_i0 (C_now_ u x) = C_i0 u := rfl
theorem C_now_i1 (u : TC) (x : TS) : C_i1 (C_now_ u x) = C_i1 u := rfl
theorem C_sv_now (u : TC) (x : TV) : C_now (C_sv_ u x) = C_now u := rfl
theorem C_sv_sv (u : TC) (x : TV) : C_sv (C_sv_ u x) = x := rfl
theorem C_sv_tr (u : TC) (x : TV) : C_tr (C_sv_ u x) = C_tr u := rfl
theorem C_sv_ts (u : TC) (x : TV) : C_ts (C_sv_ u x) = C_ts u := rfl
theorem C_sv_hi (u : TC) (x : TV) : C_hi (C_sv_ u x) = C_hi u := rfl
theorem C_sv_r0 (u : TC) (x : TV) : C_r0 (C_sv_ u x) = C_r0 u := rfl
theorem C_sv_r1 (u : TC) (x : TV) : C_r1 (C_sv_ u x) = C_r1 u := rfl
theorem C_sv_r2 (u : TC) (x : TV) : C_r2 (C_sv_ u x) = C_r2 u := rfl
theorem C_sv_r3 (u : TC) (x : TV) : C_r3 (C_sv_ u x) = C_r3 u := rfl
theorem C_sv_r4 (u : TC) (x : TV) : C_r4 (C_sv_ u x) = C_r4 u := rfl
theorem C_sv_r5 (u : TC) (x : TV) : C_r5 (C_sv_ u x) = C_r5 u := rfl
theorem C_sv_tx (u : TC) (x : TV) : C_tx (C_sv_ u x) = C_tx u := rfl
theorem C_sv_kp (u : TC) (x : TV) : C_kp (C_sv_ u x) = C_kp u := rfl
theorem C_sv_i0 (u : TC) (x : TV) : C_i0 (C_sv_ u x) = C_i0 u := rfl
theorem C_sv_i1 (u : TC) (x : TV) : C_i1 (C_sv_ u x) = C_i1 u := rfl
theorem C_tr_now (u : TC) (x : TS) : C_now (C_tr_ u x) = C_now u := rfl
theorem C_tr_sv (u : TC) (x : TS) : C_sv (C_tr_ u x) = C_sv u := rfl
theorem C_tr_tr (u : TC) (x : TS) : C_tr (C_tr_ u x) = x := rfl
theorem C_tr_ts (u : TC) (x : TS) : C_ts (C_tr_ u x) = C_ts u := rfl
theorem C_tr_hi (u : TC) (x : TS) : C_hi (C_tr_ u x) = C_hi u := rfl
theorem C_tr_r0 (u : TC) (x : TS) : C_r0 (C_tr_ u x) = C_r0 u := rfl
theorem C_tr_r1 (u : TC) (x : TS) : C_r1 (C_tr_ u x) = C_r1 u := rfl
theorem C_tr_r2 (u : TC) (x : TS) : C_r2 (C_tr_ u x) = C_r2 u := rfl
theorem C_tr_r3 (u : TC) (x : TS) : C_r3 (C_tr_ u x) = C_r3 u := rfl
theorem C_tr_r4 (u : TC) (x : TS) : C_r4 (C_tr_ u x) = C_r4 u := rfl
theorem C_tr_r5 (u : TC) (x : TS) : C_r5 (C_tr_ u x) = C_r5 u := rfl
theorem C_tr_tx (u : TC) (x : TS) : C_tx (C_tr_ u x) = C_tx u := rfl
theorem C_tr_kp (u : TC) (x : TS) : C_kp (C_tr_ u x) = C_kp u := rfl
theorem C_tr_i0 (u : TC) (x : TS) : C_i0 (C_tr_ u x) = C_i0 u := rfl
theorem C_tr_i1 (u : TC) (x : TS) : C_i1 (C_tr_ u x) = C_i1 u := rfl
theorem C_ts_now (u : TC) (x : TV) : C_now (C_ts_ u x) = C_now u := rfl
theorem C_ts_sv (u : TC) (x : TV) : C_sv (C_ts_ u x) = C_sv u := rfl
theorem C_ts_tr (u : TC) (x : TV) : C_tr (C_ts_ u x) = C_tr u := rfl
theorem C_ts_ts (u : TC) (x : TV) : C_ts (C_ts_ u x) = x := rfl
theorem C_ts_hi (u : TC) (x : TV) : C_hi (C_ts_ u x) = C_hi u := rfl
theorem C_ts_r0 (u : TC) (x : TV) : C_r0 (C_ts_ u x) = C_r0 u := rfl
theorem C_ts_r1 (u : TC) (x : TV) : C_r1 (C_ts_ u x) = C_r1 u := rfl
theorem C_ts_r2 (u : TC) (x : TV) : C_r2 (C_ts_ u x) = C_r2 u := rfl
theorem C_ts_r3 (u : TC) (x : TV) : C_r3 (C_ts_ u x) = C_r3 u := rfl
theorem C_ts_r4 (u : TC) (x : TV) : C_r4 (C_ts_ u x) = C_r4 u := rfl
theorem C_ts_r5 (u : TC) (x : TV) : C_r5 (C_ts_ u x) = C_r5 u := rfl
theorem C_ts_tx (u : TC) (x : TV) : C_tx (C_ts_ u x) = C_tx u := rfl
theorem C_ts_kp (u : TC) (x : TV) : C_kp (C_ts_ u x) = C_kp u := rfl
theorem C_ts_i0 (u : TC) (x : TV) : C_i0 (C_ts_ u x) = C_i0 u := rfl
theorem C_ts_i1 (u : TC) (x : TV) : C_i1 (C_ts_ u x) = C_i1 u := rfl
theorem C_hi_now (u : TC) (x : TH) : C_now (C_hi_ u x) = C_now u := rfl
theorem C_hi_sv (u : TC) (x : TH) : C_sv (C_hi_ u x) = C_sv u := rfl
theorem C_hi_tr (u : TC) (x : TH) : C_tr (C_hi_ u x) = C_tr u := rfl
theorem C_hi_ts (u : TC) (x : TH) : C_ts (C_hi_ u x) = C_ts u := rfl
theorem C_hi_hi (u : TC) (x : TH) : C_hi (C_hi_ u x) = x := rfl
theorem C_hi_r0 (u : TC) (x : TH) : C_r0 (C_hi_ u x) = C_r0 u := rfl
theorem C_hi_r1 (u : TC) (x : TH) : C_r1 (C_hi_ u x) = C_r1 u := rfl
theorem C_hi_r2 (u : TC) (x : TH) : C_r2 (C_hi_ u x) = C_r2 u := rfl
theorem C_hi_r3 (u : TC) (x : TH) : C_r3 (C_hi_ u x) = C_r3 u := rfl
theorem C_hi_r4 (u : TC) (x : TH) : C_r4 (C_hi_ u x) = C_r4 u := rfl
theorem C_hi_r5 (u : TC) (x : TH) : C_r5 (C_hi_ u x) = C_r5 u := rfl
theorem C_hi_tx (u : TC) (x : TH) : C_tx (C_hi_ u x) = C_tx u := rfl
theorem C_hi_kp (u : TC) (x : TH) : C_kp (C_hi_ u x) = C_kp u := rfl
theorem C_hi_i0 (u : TC) (x : TH) : C_i0 (C_hi_ u x) = C_i0 u := rfl
theorem C_hi_i1 (u : TC) (x : TH) : C_i1 (C_hi_ u x) = C_i1 u := rfl
theorem C_r0_now (u : TC) (x : TS) : C_now (C_r0_ u x) = C_now u := rfl
theorem C_r0_sv (u : TC) (x : TS) : C_sv (C_r0_ u x) = C_sv u := rfl
theorem C_r0_tr (u : TC) (x : TS) : C_tr (C_r0_ u x) = C_tr u := rfl
theorem C_r0_ts (u : TC) (x : TS) : C_ts (C_r0_ u x) = C_ts u := rfl
theorem C_r0_hi (u : TC) (x : TS) : C_hi (C_r0_ u x) = C_hi u := rfl
theorem C_r0_r0 (u : TC) (x : TS) : C_r0 (C_r0_ u x) = x := rfl
theorem C_r0_r1 (u : TC) (x : TS) : C_r1 (C_r0_ u x) = C_r1 u := rfl
theorem C_r0_r2 (u : TC) (x : TS) : C_r2 (C_r0_ u x) = C_r2 u := rfl
theorem C_r0_r3 (u : TC) (x : TS) : C_r3 (C_r0_ u x) = C_r3 u := rfl
theorem C_r0_r4 (u : TC) (x : TS) : C_r4 (C_r0_ u x) = C_r4 u := rfl
theorem C_r0_r5 (u : TC) (x : TS) : C_r5 (C_r0_ u x) = C_r5 u := rfl
theorem C_r0_tx (u : TC) (x : TS) : C_tx (C_r0_ u x) = C_tx u := rfl
theorem C_r0_kp (u : TC) (x : TS) : C_kp (C_r0_ u x) = C_kp u := rfl
theorem C_r0_i0 (u : TC) (x : TS) : C_i0 (C_r0_ u x) = C_i0 u := rfl
theorem C_r0_i1 (u : TC) (x : TS) : C_i1 (C_r0_ u x) = C_i1 u := rfl
theorem C_r1_now (u : TC) (x : TS) : C_now (C_r1_ u x) = C_now u := rfl
theorem C_r1_sv (u : TC) (x : TS) : C_sv (C_r1_ u x) = C_sv u := rfl
theorem C_r1_tr (u : TC) (x : TS) : C_tr (C_r1_ u x) = C_tr u := rfl
theorem C_r1_ts (u : TC) (x : TS) : C_ts (C_r1_ u x) = C_ts u := rfl
theorem C_r1_hi (u : TC) (x : TS) : C_hi (C_r1_ u x) = C_hi u := rfl
theorem C_r1_r0 (u : TC) (x : TS) : C_r0 (C_r1_ u x) = C_r0 u := rfl
theorem C_r1_r1 (u : TC) (x : TS) : C_r1 (C_r1_ u x) = x := rfl
theorem C_r1_r2 (u : TC) (x : TS) : C_r2 (C_r1_ u x) = C_r2 u := rfl
theorem C_r1_r3 (u : TC) (x : TS) : C_r3 (C_r1_ u x) = C_r3 u := rfl
theorem C_r1_r4 (u : TC) (x : TS) : C_r4 (C_r1_ u x) = C_r4 u := rfl
theorem C_r1_r5 (u : TC) (x : TS) : C_r5 (C_r1_ u x) = C_r5 u := rfl
theorem C_r1_tx (u : TC) (x : TS) : C_tx (C_r1_ u x) = C_tx u := rfl
theorem C_r1_kp (u : TC) (x : TS) : C_kp (C_r1_ u x) = C_kp u := rfl
theorem C_r1_i0 (u : TC) (x : TS) : C_i0 (C_r1_ u x) = C_i0 u := rfl
theorem C_r1_i1 (u : TC) (x : TS) : C_i1 (C_r1_ u x) = C_i1 u := rfl
theorem C_r2_now (u : TC) (x : TS) : C_now (C_r2_ u x) = C_now u := rfl
theorem C_r2_sv (u : TC) (x : TS) : C_sv (C_r2_ u x) = C_sv u := rfl
theorem C_r2_tr (u : TC) (x : TS) : C_tr (C_r2_ u x) = C_tr u := rfl
theorem C_r2_ts (u : TC) (x : TS) : C_ts (C_r2_ u x) = C_ts u := rfl
theorem C_r2_hi (u : TC) (x : TS) : C_hi (C_r2_ u x) = C_hi u := rfl
theorem C_r2_r0 (u : TC) (x : TS) : C_r0 (C_r2_ u x) = C_r0 u := rfl
theorem C_r2_r1 (u : TC) (x : TS) : C_r1 (C_r2_ u x) = C_r1 u := rfl
theorem C_r2_r2 (u : TC) (x : TS) : C_r2 (C_r2_ u x) = x := rfl
theorem C_r2_r3 (u : TC) (x : TS) : C_r3 (C_r2_ u x) = C_r3 u := rfl
theorem C_r2_r4 (u : TC) (x : TS) : C_r4 (C_r2_ u x) = C_r4 u := rfl
theorem C_r2_r5 (u : TC) (x : TS) : C_r5 (C_r2_ u x) = C_r5 u := rfl
theorem C_r2_tx (u : TC) (x : TS) : C_tx (C_r2_ u x) = C_tx u := rfl
theorem C_r2_kp (u : TC) (x : TS) : C_kp (C_r2_ u x) = C_kp u := rfl
theorem C_r2_i0 (u : TC) (x : TS) : C_i0 (C_r2_ u x) = C_i0 u := rfl
theorem C_r2_i1 (u : TC) (x : TS) : C_i1 (C_r2_ u x) = C_i1 u := rfl
theorem C_r3_now (u : TC) (x : TS) : C_now (C_r3_ u x) = C_now u := rfl
theorem C_r3_sv (u : TC) (x : TS) : C_sv (C_r3_ u x) = C_sv u := rfl
theorem C_r3_tr (u : TC) (x : TS) : C_tr (C_r3_ u x) = C_tr u := rfl
theorem C_r3_ts (u : TC) (x : TS) : C_ts (C_r3_ u x) = C_ts u := rfl
theorem C_r3_hi (u : TC) (x : TS) : C_hi (C_r3_ u x) = C_hi u := rfl
theorem C_r3_r0 (u : TC) (x : TS) : C_r0 (C_r3_ u x) = C_r0 u := rfl
theorem C_r3_r1 (u : TC) (x : TS) : C_r1 (C_r3_ u x) = C_r1 u := rfl
theorem C_r3_r2 (u : TC) (x : TS) : C_r2 (C_r3_ u x) = C_r2 u := rfl
theorem C_r3_r3 (u : TC) (x : TS) : C_r3 (C_r3_ u x) = x := rfl
theorem C_r3_r4 (u : TC) (x : TS) : C_r4 (C_r3_ u x) = C_r4 u := rfl
theorem C_r3_r5 (u : TC) (x : TS) : C_r5 (C_r3_ u x) = C_r5 u := rfl
theorem C_r3_tx (u : TC) (x : TS) : C_tx (C_r3_ u x) = C_tx u := rfl
theorem C_r3_kp (u : TC) (x : TS) : C_kp (C_r3_ u x) = C_kp u := rfl
theorem C_r3_i0 (u : TC) (x : TS) : C_i0 (C_r3_ u x) = C_i0 u := rfl
theorem C_r3_i1 (u : TC) (x : TS) : C_i1 (C_r3_ u x) = C_i1 u := rfl
theorem C_r4_now (u : TC) (x : TS) : C_now (C_r4_ u x) = C_now u := rfl
theorem C_r4_sv (u : TC) (x : TS) : C_sv (C_r4_ u x) = C_sv u := rfl
theorem C_r4_tr (u : TC) (x : TS) : C_tr (C_r4_ u x) = C_tr u := rfl
theorem C_r4_ts (u : TC) (x : TS) : C_ts (C_r4_ u x) = C_ts u := rfl
theorem C_r4_hi (u : TC) (x : TS) : C_hi (C_r4_ u x) = C_hi u := rfl
theorem C_r4_r0 (u : TC) (x : TS) : C_r0 (C_r4_ u x) = C_r0 u := rfl
theorem C_r4_r1 (u : TC) (x : TS) : C_r1 (C_r4_ u x) = C_r1 u := rfl
theorem C_r4_r2 (u : TC) (x : TS) : C_r2 (C_r4_ u x) = C_r2 u := rfl
theorem C_r4_r3 (u : TC) (x : TS) : C_r3 (C_r4_ u x) = C_r3 u := rfl
theorem C_r4_r4 (u : TC) (x : TS) : C_r4 (C_r4_ u x) = x := rfl
theorem C_r4_r5 (u : TC) (x : TS) : C_r5 (C_r4_ u x) = C_r5 u := rfl
theorem C_r4_tx (u : TC) (x : TS) : C_tx (C_r4_ u x) = C_tx u := rfl
theorem C_r4_kp (u : TC) (x : TS) : C_kp (C_r4_ u x) = C_kp u := rfl
theorem C_r4_i0 (u : TC) (x : TS) : C_i0 (C_r4_ u x) = C_i0 u := rfl
theorem C_r4_i1 (u : TC) (x : TS) : C_i1 (C_r4_ u x) = C_i1 u := rfl
theorem C_r5_now (u : TC) (x : TS) : C_now (C_r5_ u x) = C_now u := rfl
theorem C_r5_sv (u : TC) (x : TS) : C_sv (C_r5_ u x) = C_sv u := rfl
theorem C_r5_tr (u : TC) (x : TS) : C_tr (C_r5_ u x) = C_tr u := rfl
theorem C_r5_ts (u : TC) (x : TS) : C_ts (C_r5_ u x) = C_ts u := rfl
theorem C_r5_hi (u : TC) (x : TS) : C_hi (C_r5_ u x) = C_hi u := rfl
theorem C_r5_r0 (u : TC) (x : TS) : C_r0 (C_r5_ u x) = C_r0 u := rfl
theorem C_r5_r1 (u : TC) (x : TS) : C_r1 (C_r5_ u x) = C_r1 u := rfl
theorem C_r5_r2 (u : TC) (x : TS) : C_r2 (C_r5_ u x) = C_r2 u := rfl
theorem C_r5_r3 (u : TC) (x : TS) : C_r3 (C_r5_ u x) = C_r3 u := rfl
theorem C_r5_r4 (u : TC) (x : TS) : C_r4 (C_r5_ u x) = C_r4 u := rfl
theorem C_r5_r5 (u : TC) (x : TS) : C_r5 (C_r5_ u x) = x := rfl
theorem C_r5_tx (u : TC) (x : TS) : C_tx (C_r5_ u x) = C_tx u := rfl
theorem C_r5_kp (u : TC) (x : TS) : C_kp (C_r5_ u x) = C_kp u := rfl
theorem C_r5_i0 (u : TC) (x : TS) : C_i0 (C_r5_ u x) = C_i0 u := rfl
theorem C_r5_i1 (u : TC) (x : TS) : C_i1 (C_r5_ u x) = C_i1 u := rfl
theorem C_tx_now (u : TC) (x : TX) : C_now (C_tx_ u x) = C_now u := rfl
theorem C_tx_sv (u : TC) (x : TX) : C_sv (C_tx_ u x) = C_sv u := rfl
theorem C_tx_tr (u : TC) (x : TX) : C_tr (C_tx_ u x) = C_tr u := rfl
theorem C_tx_ts (u : TC) (x : TX) : C_ts (C_tx_ u x) = C_ts u := rfl
theorem C_tx_hi (u : TC) (x : TX) : C_hi (C_tx_ u x) = C_hi u := rfl
theorem C_tx_r0 (u : TC) (x : TX) : C_r0 (C_tx_ u x) = C_r0 u := rfl
theorem C_tx_r1 (u : TC) (x : TX) : C_r1 (C_tx_ u x) = C_r1 u := rfl
theorem C_tx_r2 (u : TC) (x : TX) : C_r2 (C_tx_ u x) = C_r2 u := rfl
theorem C_tx_r3 (u : TC) (x : TX) : C_r3 (C_tx_ u x) = C_r3 u := rfl
theorem C_tx_r4 (u : TC) (x : TX) : C_r4 (C_tx_ u x) = C_r4 u := rfl
theorem C_tx_r5 (u : TC) (x : TX) : C_r5 (C_tx_ u x) = C_r5 u := rfl
theorem C_tx_tx (u : TC) (x : TX) : C_tx (C_tx_ u x) = x := rfl
theorem C_tx_kp (u : TC) (x : TX) : C_kp (C_tx_ u x) = C_kp u := rfl
theorem C_tx_i0 (u : TC) (x : TX) : C_i0 (C_tx_ u x) = C_i0 u := rfl
theorem C_tx_i1 (u : TC) (x : TX) : C_i1 (C_tx_ u x) = C_i1 u := rfl
theorem C_kp_now (u : TC) (x : (Nat → Int32)) : C_now (C_kp_ u x) = C_now u := rfl
theorem C_kp_sv (u : TC) (x : (Nat → Int32)) : C_sv (C_kp_ u x) = C_sv u := rfl
theorem C_kp_tr (u : TC) (x : (Nat → Int32)) : C_tr (C_kp_ u x) = C_tr u := rfl
theorem C_kp_ts (u : TC) (x : (Nat → Int32)) : C_ts (C_kp_ u x) = C_ts u := rfl
theorem C_kp_hi (u : TC) (x : (Nat → Int32)) : C_hi (C_kp_ u x) = C_hi u := rfl
theorem C_kp_r0 (u : TC) (x : (Nat → Int32)) : C_r0 (C_kp_ u x) = C_r0 u := rfl
theorem C_kp_r1 (u : TC) (x : (Nat → Int32)) : C_r1 (C_kp_ u x) = C_r1 u := rfl
theorem C_kp_r2 (u : TC) (x : (Nat → Int32)) : C_r2 (C_kp_ u x) = C_r2 u := rfl
theorem C_kp_r3 (u : TC) (x : (Nat → Int32)) : C_r3 (C_kp_ u x) = C_r3 u := rfl
theorem C_kp_r4 (u : TC) (x : (Nat → Int32)) : C_r4 (C_kp_ u x) = C_r4 u := rfl
theorem C_kp_r5 (u : TC) (x : (Nat → Int32)) : C_r5 (C_kp_ u x) = C_r5 u := rfl
theorem C_kp_tx (u : TC) (x : (Nat → Int32)) : C_tx (C_kp_ u x) = C_tx u := rfl
theorem C_kp_kp (u : TC) (x : (Nat → Int32)) : C_kp (C_kp_ u x) = x := rfl
theorem C_kp_i0 (u : TC) (x : (Nat → Int32)) : C_i0 (C_kp_ u x) = C_i0 u := rfl
theorem C_kp_i1 (u : TC) (x : (Nat → Int32)) : C_i1 (C_kp_ u x) = C_i1 u := rfl
theorem C_i0_now (u : TC) (x : TS) : C_now (C_i0_ u x) = C_now u := rfl
theorem C_i0_sv (u : TC) (x : TS) : C_sv (C_i0_ u x) = C_sv u := rfl
theorem C_i0_tr (u : TC) (x : TS) : C_tr (C_i0_ u x) = C_tr u := rfl
theorem C_i0_ts (u : TC) (x : TS) : C_ts (C_i0_ u x) = C_ts u := rfl
theorem C_i0_hi (u : TC) (x : TS) : C_hi (C_i0_ u x) = C_hi u := rfl
theorem C_i0_r0 (u : TC) (x : TS) : C_r0 (C_i0_ u x) = C_r0 u := rfl
theorem C_i0_r1 (u : TC) (x : TS) : C_r1 (C_i0_ u x) = C_r1 u := rfl
theorem C_i0_r2 (u : TC) (x : TS) : C_r2 (C_i0_ u x) = C_r2 u := rfl
theorem C_i0_r3 (u : TC) (x : TS) : C_r3 (C_i0_ u x) = C_r3 u := rfl
theorem C_i0_r4 (u : TC) (x : TS) : C_r4 (C_i0_ u x) = C_r4 u := rfl
theorem C_i0_r5 (u : TC) (x : TS) : C_r5 (C_i0_ u x) = C_r5 u := rfl
theorem C_i0_tx (u : TC) (x : TS) : C_tx (C_i0_ u x) = C_tx u := rfl
theorem C_i0_kp (u : TC) (x : TS) : C_kp (C_i0_ u x) = C_kp u := rfl
theorem C_i0_i0 (u : TC) (x : TS) : C_i0 (C_i0_ u x) = x := rfl
theorem C_i0_i1 (u : TC) (x : TS) : C_i1 (C_i0_ u x) = C_i1 u := rfl
theorem C_i1_now (u : TC) (x : TS) : C_now (C_i1_ u x) = C_now u := rfl
theorem C_i1_sv (u : TC) (x : TS) : C_sv (C_i1_ u x) = C_sv u := rfl
theorem C_i1_tr (u : TC) (x : TS) : C_tr (C_i1_ u x) = C_tr u := rfl
theorem C_i1_ts (u : TC) (x : TS) : C_ts (C_i1_ u x) = C_ts u := rfl
theorem C_i1_hi (u : TC) (x : TS) : C_hi (C_i1_ u x) = C_hi u := rfl
theorem C_i1_r0 (u : TC) (x : TS) : C_r0 (C_i1_ u x) = C_r0 u := rfl
theorem C_i1_r1 (u : TC) (x : TS) : C_r1 (C_i1_ u x) = C_r1 u := rfl
theorem C_i1_r2 (u : TC) (x : TS) : C_r2 (C_i1_ u x) = C_r2 u := rfl
theorem C_i1_r3 (u : TC) (x : TS) : C_r3 (C_i1_ u x) = C_r3 u := rfl
theorem C_i1_r4 (u : TC) (x : TS) : C_r4 (C_i1_ u x) = C_r4 u := rfl
theorem C_i1_r5 (u : TC) (x : TS) : C_r5 (C_i1_ u x) = C_r5 u := rfl
theorem C_i1_tx (u : TC) (x : TS) : C_tx (C_i1_ u x) = C_tx u := rfl
theorem C_i1_kp (u : TC) (x : TS) : C_kp (C_i1_ u x) = C_kp u := rfl
theorem C_i1_i0 (u : TC) (x : TS) : C_i0 (C_i1_ u x) = C_i0 u := rfl
theorem C_i1_i1 (u : TC) (x : TS) : C_i1 (C_i1_ u x) = x := rfl
def LB (cT : Nat → ClassId) (g gm : Nat → Nat) (C : TC) (m : TM) : List va_W := [wT g, wS cT g 1 (C_now C), wV cT g 9 1 (C_sv C), wS cT g 13 (C_tr C), wV cT g 21 13 (C_ts C), wH cT g 25 (C_hi C), wS cT g 27 (C_r0 C), wS cT g 35 (C_r1 C), wS cT g 43 (C_r2 C), wS cT g 51 (C_r3 C), wS cT g 59 (C_r4 C), wS cT g 67 (C_r5 C), wX cT g 75 (C_tx C), wI cT g 77, wK cT g 94 (C_kp C), wS cT g 78 (C_i0 C), wS cT g 86 (C_i1 C), wM cT gm 0 m]
def OP_begin (RR : TC → TM → Prop) (fu : Nat) : Prop := ∀ (C : TC) (m : TM) (p0 : Int32), RR C m → ∃ (o : Int32 × TS × TH × TS × TS × TS × TS × TS × TS) (o' : Int32 × TM), f_X4_begin fu (C_now C) (C_hi C) (C_r0 C) (C_r1 C) (C_r2 C) (C_r3 C) (C_r4 C) (C_r5 C) p0 = some o ∧ f_X5_begin fu m p0 = some o' ∧ o.1 = o'.1 ∧ RR ((o.2.1, C_sv C, C_tr C, C_ts C, o.2.2.1, o.2.2.2.1, o.2.2.2.2.1, o.2.2.2.2.2.1, o.2.2.2.2.2.2.1, o.2.2.2.2.2.2.2.1, o.2.2.2.2.2.2.2.2, C_tx C, C_kp C, C_i0 C, C_i1 C) : TC) o'.2
def OP_setNumber (RR : TC → TM → Prop) (fu : Nat) : Prop := ∀ (C : TC) (m : TM) (p0 p1 : Int32), RR C m → ∃ (o : Int32 × TS × TH × TS × TS × TS × TS × TS × TS) (o' : Int32 × TM), f_X4_setNumber fu (C_now C) (C_hi C) (C_r0 C) (C_r1 C) (C_r2 C) (C_r3 C) (C_r4 C) (C_r5 C) p0 p1 = some o ∧ f_X5_setNumber fu m p0 p1 = some o' ∧ o.1 = o'.1 ∧ RR ((o.2.1, C_sv C, C_tr C, C_ts C, o.2.2.1, o.2.2.2.1, o.2.2.2.2.1, o.2.2.2.2.2.1, o.2.2.2.2.2.2.1, o.2.2.2.2.2.2.2.1, o.2.2.2.2.2.2.2.2, C_tx C, C_kp C, C_i0 C, C_i1 C) : TC) o'.2
def OP_setLevel (RR : TC → TM → Prop) (fu : Nat) : Prop := ∀ (C : TC) (m : TM) (p0 p1 : Int32), RR C m → ∃ (o : Int32 × TS × TH × TS × TS × TS × TS × TS × TS) (o' : Int32 × TM), f_X4_setLevel fu (C_now C) (C_hi C) (C_r0 C) (C_r1 C) (C_r2 C) (C_r3 C) (C_r4 C) (C_r5 C) p0 p1 = some o ∧ f_X5_setLevel fu m p0 p1 = some o' ∧ o.1 = o'.1 ∧ RR ((o.2.1, C_sv C, C_tr C, C_ts C, o.2.2.1, o.2.2.2.1, o.2.2.2.2.1, o.2.2.2.2.2.1, o.2.2.2.2.2.2.1, o.2.2.2.2.2.2.2.1, o.2.2.2.2.2.2.2.2, C_tx C, C_kp C, C_i0 C, C_i1 C) : TC) o'.2
def OP_appendCharacter (RR : TC → TM → Prop) (fu : Nat) : Prop := ∀ (C : TC) (m : TM) (p0 : Int32), RR C m → ∃ (o : Int32 × TX) (o' : Int32 × TM), f_X4_appendCharacter fu (C_tx C) p0 = some o ∧ f_X5_appendCharacter fu m p0 = some o' ∧ o.1 = o'.1 ∧ RR ((C_now C, C_sv C, C_tr C, C_ts C, C_hi C, C_r0 C, C_r1 C, C_r2 C, C_r3 C, C_r4 C, C_r5 C, o.2, C_kp C, C_i0 C, C_i1 C) : TC) o'.2
def OP_clearText (RR : TC → TM → Prop) (fu : Nat) : Prop := ∀ (C : TC) (m : TM), RR C m → ∃ (o : Int32 × TX) (o' : Int32 × TM), f_X4_clearText fu (C_tx C) = some o ∧ f_X5_clearText fu m = some o' ∧ o.1 = o'.1 ∧ RR ((C_now C, C_sv C, C_tr C, C_ts C, C_hi C, C_r0 C, C_r1 C, C_r2 C, C_r3 C, C_r4 C, C_r5 C, o.2, C_kp C, C_i0 C, C_i1 C) : TC) o'.2
def OP_load (RR : TC → TM → Prop) (fu : Nat) : Prop := ∀ (C : TC) (m : TM), RR C m → ∃ (o : Int32 × TS × TS × TH × TS × TS × TS × TS × TS × TS × TX) (o' : Int32 × TM), f_X4_load fu (C_now C) (C_tr C) (C_hi C) (C_r0 C) (C_r1 C) (C_r2 C) (C_r3 C) (C_r4 C) (C_r5 C) (C_tx C) = some o ∧ f_X5_load fu m = some o' ∧ o.1 = o'.1 ∧ RR ((o.2.1, C_sv C, o.2.2.1, C_ts C, o.2.2.2.1, o.2.2.2.2.1, o.2.2.2.2.2.1, o.2.2.2.2.2.2.1, o.2.2.2.2.2.2.2.1, o.2.2.2.2.2.2.2.2.1, o.2.2.2.2.2.2.2.2.2.1, o.2.2.2.2.2.2.2.2.2.2, C_kp C, C_i0 C, C_i1 C) : TC) o'.2
def OP_renew (RR : TC → TM → Prop) (fu : Nat) : Prop := ∀ (C : TC) (m : TM) (p0 p1 : Int32), RR C m → ∃ (o : Int32 × TS × TH × TS × TS × TS × TS × TS × TS) (o' : Int32 × TM), f_X4_renew fu (C_now C) (C_hi C) (C_r0 C) (C_r1 C) (C_r2 C) (C_r3 C) (C_r4 C) (C_r5 C) p0 p1 = some o ∧ f_X5_renew fu m p0 p1 = some o' ∧ o.1 = o'.1 ∧ RR ((o.2.1, C_sv C, C_tr C, C_ts C, o.2.2.1, o.2.2.2.1, o.2.2.2.2.1, o.2.2.2.2.2.1, o.2.2.2.2.2.2.1, o.2.2.2.2.2.2.2.1, o.2.2.2.2.2.2.2.2, C_tx C, C_kp C, C_i0 C, C_i1 C) : TC) o'.2
def OP_addJob (RR : TC → TM → Prop) (fu : Nat) : Prop := ∀ (C : TC) (m : TM) (p0 p1 p2 : Int32), RR C m → ∃ (o : Int32 × TS × TH × TS × TS × TS × TS × TS × TS) (o' : Int32 × TM), f_X4_addJob fu (C_now C) (C_hi C) (C_r0 C) (C_r1 C) (C_r2 C) (C_r3 C) (C_r4 C) (C_r5 C) p0 p1 p2 = some o ∧ f_X5_addJob fu m p0 p1 p2 = some o' ∧ o.1 = o'.1 ∧ RR ((o.2.1, C_sv C, C_tr C, C_ts C, o.2.2.1, o.2.2.2.1, o.2.2.2.2.1, o.2.2.2.2.2.1, o.2.2.2.2.2.2.1, o.2.2.2.2.2.2.2.1, o.2.2.2.2.2.2.2.2, C_tx C, C_kp C, C_i0 C, C_i1 C) : TC) o'.2
def OP_cancelJobs (RR : TC → TM → Prop) (fu : Nat) : Prop := ∀ (C : TC) (m : TM) (p0 : Int32), RR C m → ∃ (o : Int32 × TS × TH × TS × TS × TS × TS × TS × TS) (o' : Int32 × TM), f_X4_cancelJobs fu (C_now C) (C_hi C) (C_r0 C) (C_r1 C) (C_r2 C) (C_r3 C) (C_r4 C) (C_r5 C) p0 = some o ∧ f_X5_cancelJobs fu m p0 = some o' ∧ o.1 = o'.1 ∧ RR ((o.2.1, C_sv C, C_tr C, C_ts C, o.2.2.1, o.2.2.2.1, o.2.2.2.2.1, o.2.2.2.2.2.1, o.2.2.2.2.2.2.1, o.2.2.2.2.2.2.2.1, o.2.2.2.2.2.2.2.2, C_tx C, C_kp C, C_i0 C, C_i1 C) : TC) o'.2
def OP_work (RR : TC → TM → Prop) (fu : Nat) : Prop := ∀ (C : TC) (m : TM) (p0 : Int32), RR C m → ∃ (o : Int32 × TS × TH × TS × TS × TS × TS × TS × TS) (o' : Int32 × TM), f_X4_work fu (C_now C) (C_hi C) (C_r0 C) (C_r1 C) (C_r2 C) (C_r3 C) (C_r4 C) (C_r5 C) p0 = some o ∧ f_X5_work fu m p0 = some o' ∧ o.1 = o'.1 ∧ RR ((o.2.1, C_sv C, C_tr C, C_ts C, o.2.2.1, o.2.2.2.1, o.2.2.2.2.1, o.2.2.2.2.2.1, o.2.2.2.2.2.2.1, o.2.2.2.2.2.2.2.1, o.2.2.2.2.2.2.2.2, C_tx C, C_kp C, C_i0 C, C_i1 C) : TC) o'.2
def OP_trains (RR : TC → TM → Prop) (fu : Nat) : Prop := ∀ (C : TC) (m : TM) (p0 p1 p2 : Int32), RR C m → ∃ (o : Int32 × TS × TV × TH × TS × TS × TS × TS × TS × TS) (o' : Int32 × TM), f_X4_trains fu (C_now C) (C_sv C) (C_hi C) (C_r0 C) (C_r1 C) (C_r2 C) (C_r3 C) (C_r4 C) (C_r5 C) p0 p1 p2 = some o ∧ f_X5_trains fu m p0 p1 p2 = some o' ∧ o.1 = o'.1 ∧ RR ((o.2.1, o.2.2.1, C_tr C, C_ts C, o.2.2.2.1, o.2.2.2.2.1, o.2.2.2.2.2.1, o.2.2.2.2.2.2.1, o.2.2.2.2.2.2.2.1, o.2.2.2.2.2.2.2.2.1, o.2.2.2.2.2.2.2.2.2, C_tx C, C_kp C, C_i0 C, C_i1 C) : TC) o'.2
def OP_keep (RR : TC → TM → Prop) (fu : Nat) : Prop := ∀ (C : TC) (m : TM) (p0 : Int32), RR C m → ∃ (o : Int32 × TS × TS × (Nat → Int32)) (o' : Int32 × TM), f_X4_keep fu (C_now C) (C_i0 C) (C_i1 C) (C_kp C) p0 = some o ∧ f_X5_keep fu m p0 = some o' ∧ o.1 = o'.1 ∧ RR ((C_now C, C_sv C, C_tr C, C_ts C, C_hi C, C_r0 C, C_r1 C, C_r2 C, C_r3 C, C_r4 C, C_r5 C, C_tx C, o.2.2.2, o.2.1, o.2.2.1) : TC) o'.2
def OP_back (RR : TC → TM → Prop) (fu : Nat) : Prop := ∀ (C : TC) (m : TM) (p0 : Int32), RR C m → ∃ (o : Int32 × TS × TH × TS × TS × TS × TS × TS × TS) (o' : Int32 × TM), f_X4_back fu (C_now C) (C_hi C) (C_r0 C) (C_r1 C) (C_r2 C) (C_r3 C) (C_r4 C) (C_r5 C) (C_i0 C) (C_i1 C) (C_kp C) p0 = some o ∧ f_X5_back fu m p0 = some o' ∧ o.1 = o'.1 ∧ RR ((o.2.1, C_sv C, C_tr C, C_ts C, o.2.2.1, o.2.2.2.1, o.2.2.2.2.1, o.2.2.2.2.2.1, o.2.2.2.2.2.2.1, o.2.2.2.2.2.2.2.1, o.2.2.2.2.2.2.2.2, C_tx C, C_kp C, C_i0 C, C_i1 C) : TC) o'.2
def OP_undo (RR : TC → TM → Prop) (fu : Nat) : Prop := ∀ (C : TC) (m : TM), RR C m → ∃ (o : Int32 × TS × TH) (o' : Int32 × TM), f_X4_undo fu (C_now C) (C_hi C) (C_r0 C) (C_r1 C) (C_r2 C) (C_r3 C) (C_r4 C) (C_r5 C) = some o ∧ f_X5_undo fu m = some o' ∧ o.1 = o'.1 ∧ RR ((o.2.1, C_sv C, C_tr C, C_ts C, o.2.2, C_r0 C, C_r1 C, C_r2 C, C_r3 C, C_r4 C, C_r5 C, C_tx C, C_kp C, C_i0 C, C_i1 C) : TC) o'.2
def OP_count (RR : TC → TM → Prop) (fu : Nat) : Prop := ∀ (C : TC) (m : TM) (p0 : Int32), RR C m → ∃ (o : Int32 × TV) (o' : Int32 × TM), f_X4_count fu (C_now C) (C_sv C) (C_hi C) (C_tx C) (C_kp C) p0 = some o ∧ f_X5_count fu m p0 = some o' ∧ o.1 = o'.1 ∧ RR ((C_now C, o.2, C_tr C, C_ts C, C_hi C, C_r0 C, C_r1 C, C_r2 C, C_r3 C, C_r4 C, C_r5 C, C_tx C, C_kp C, C_i0 C, C_i1 C) : TC) o'.2
def OP_sleeper (RR : TC → TM → Prop) (fu : Nat) : Prop := ∀ (C : TC) (m : TM) (p0 p1 : Int32), RR C m → ∃ (o : Int32 × TV) (o' : Int32 × TM), f_X4_sleeper fu (C_now C) (C_sv C) p0 p1 = some o ∧ f_X5_sleeper fu m p0 p1 = some o' ∧ o.1 = o'.1 ∧ RR ((C_now C, o.2, C_tr C, C_ts C, C_hi C, C_r0 C, C_r1 C, C_r2 C, C_r3 C, C_r4 C, C_r5 C, C_tx C, C_kp C, C_i0 C, C_i1 C) : TC) o'.2
def OP_job (RR : TC → TM → Prop) (fu : Nat) : Prop := ∀ (C : TC) (m : TM) (p0 p1 : Int32), RR C m → ∃ (o : Int32) (o' : Int32), f_X4_job fu (C_now C) p0 p1 = some o ∧ f_X5_job fu m p0 p1 = some o' ∧ o = o' ∧ RR C m
def OP_account (RR : TC → TM → Prop) (fu : Nat) : Prop := ∀ (C : TC) (m : TM) (p0 : Int32), RR C m → ∃ (o : Int32) (o' : Int32), f_X4_account fu (C_now C) p0 = some o ∧ f_X5_account fu m p0 = some o' ∧ o = o' ∧ RR C m
def OP_rail (RR : TC → TM → Prop) (fu : Nat) : Prop := ∀ (C : TC) (m : TM) (p0 p1 : Int32), RR C m → ∃ (o : Int32 × TV) (o' : Int32 × TM), f_X4_rail fu (C_now C) (C_sv C) p0 p1 = some o ∧ f_X5_rail fu m p0 p1 = some o' ∧ o.1 = o'.1 ∧ RR ((C_now C, o.2, C_tr C, C_ts C, C_hi C, C_r0 C, C_r1 C, C_r2 C, C_r3 C, C_r4 C, C_r5 C, C_tx C, C_kp C, C_i0 C, C_i1 C) : TC) o'.2
def OP_why (RR : TC → TM → Prop) (fu : Nat) : Prop := ∀ (C : TC) (m : TM) (p0 : Int32), RR C m → ∃ (o : Int32 × TV) (o' : Int32 × TM), f_X4_why fu (C_now C) (C_sv C) p0 = some o ∧ f_X5_why fu m p0 = some o' ∧ o.1 = o'.1 ∧ RR ((C_now C, o.2, C_tr C, C_ts C, C_hi C, C_r0 C, C_r1 C, C_r2 C, C_r3 C, C_r4 C, C_r5 C, C_tx C, C_kp C, C_i0 C, C_i1 C) : TC) o'.2
def OP_lifts (RR : TC → TM → Prop) (fu : Nat) : Prop := ∀ (C : TC) (m : TM) (p0 p1 : Int32), RR C m → ∃ (o : Int32) (o' : Int32), f_X4_lifts fu (C_now C) p0 p1 = some o ∧ f_X5_lifts fu m p0 p1 = some o' ∧ o = o' ∧ RR C m
def OP_trainsUntil (RR : TC → TM → Prop) (fu : Nat) : Prop := ∀ (C : TC) (m : TM) (p0 p1 p2 : Int32), RR C m → ∃ (o : Int32 × TS × TV) (o' : Int32 × TM), f_X4_trainsUntil fu (C_now C) (C_tr C) (C_ts C) p0 p1 p2 = some o ∧ f_X5_trainsUntil fu m p0 p1 p2 = some o' ∧ o.1 = o'.1 ∧ RR ((C_now C, C_sv C, o.2.1, o.2.2, C_hi C, C_r0 C, C_r1 C, C_r2 C, C_r3 C, C_r4 C, C_r5 C, C_tx C, C_kp C, C_i0 C, C_i1 C) : TC) o'.2
def OP_bestRow (RR : TC → TM → Prop) (fu : Nat) : Prop := ∀ (C : TC) (m : TM) (p0 p1 p2 : Int32), RR C m → ∃ (o : Int32 × TS × TV) (o' : Int32 × TM), f_X4_bestRow fu (C_now C) (C_tr C) (C_ts C) p0 p1 p2 = some o ∧ f_X5_bestRow fu m p0 p1 p2 = some o' ∧ o.1 = o'.1 ∧ RR ((C_now C, C_sv C, o.2.1, o.2.2, C_hi C, C_r0 C, C_r1 C, C_r2 C, C_r3 C, C_r4 C, C_r5 C, C_tx C, C_kp C, C_i0 C, C_i1 C) : TC) o'.2
def OP_minutesLeft (RR : TC → TM → Prop) (fu : Nat) : Prop := ∀ (C : TC) (m : TM), RR C m → ∃ (o : Int32 × TS) (o' : Int32 × TM), f_X4_minutesLeft fu (C_now C) (C_tr C) = some o ∧ f_X5_minutesLeft fu m = some o' ∧ o.1 = o'.1 ∧ RR ((C_now C, C_sv C, o.2, C_ts C, C_hi C, C_r0 C, C_r1 C, C_r2 C, C_r3 C, C_r4 C, C_r5 C, C_tx C, C_kp C, C_i0 C, C_i1 C) : TC) o'.2
