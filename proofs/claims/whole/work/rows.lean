section
-- ===== PART A: goes FIRST, ahead of the names: the tables' words, and 'selects' of the private methods out of them =====
/-- a private method of a class that the tables say can be made, by its rows of tables_1 -/
def lw_okq (q : MethodName × Nat) : Prop := (q.1.cls ≠ "java/lang/invoke/MethodHandle" ∧ q.1.cls ≠ "java/lang/invoke/VarHandle") ∧ Cond.instantiable q.1.cls q.2 ∈ tables_1 ∧ Cond.privateMethod q.1 ∈ tables_1 ∧ Cond.instanceMethod q.1 ∈ tables_1
theorem lw_p0 : lw_okq (⟨"BallastTrack", "leastNumber", "(I)I"⟩, 8) := ⟨⟨by decide +kernel, by decide +kernel⟩, List.mem_of_getElem? (i := 11) (by decide +kernel), List.mem_of_getElem? (i := 206) (by decide +kernel), List.mem_of_getElem? (i := 207) (by decide +kernel)⟩
theorem lw_p1 : lw_okq (⟨"BallastTrack", "greatestNumber", "(I)I"⟩, 8) := ⟨⟨by decide +kernel, by decide +kernel⟩, List.mem_of_getElem? (i := 11) (by decide +kernel), List.mem_of_getElem? (i := 212) (by decide +kernel), List.mem_of_getElem? (i := 213) (by decide +kernel)⟩
theorem lw_p2 : lw_okq (⟨"BallastTrack$Text", "skipSpaces", "()V"⟩, 4) := ⟨⟨by decide +kernel, by decide +kernel⟩, List.mem_of_getElem? (i := 132) (by decide +kernel), List.mem_of_getElem? (i := 252) (by decide +kernel), List.mem_of_getElem? (i := 253) (by decide +kernel)⟩
theorem lw_p3 : lw_okq (⟨"BallastTrack$Text", "readItem", "(LBallastTrack$State;)Z"⟩, 4) := ⟨⟨by decide +kernel, by decide +kernel⟩, List.mem_of_getElem? (i := 132) (by decide +kernel), List.mem_of_getElem? (i := 256) (by decide +kernel), List.mem_of_getElem? (i := 257) (by decide +kernel)⟩
theorem lw_p4 : lw_okq (⟨"BallastTrack$Text", "takes", "(C)Z"⟩, 4) := ⟨⟨by decide +kernel, by decide +kernel⟩, List.mem_of_getElem? (i := 132) (by decide +kernel), List.mem_of_getElem? (i := 260) (by decide +kernel), List.mem_of_getElem? (i := 261) (by decide +kernel)⟩
theorem lw_p5 : lw_okq (⟨"BallastTrack$Text", "expects", "(C)Z"⟩, 4) := ⟨⟨by decide +kernel, by decide +kernel⟩, List.mem_of_getElem? (i := 132) (by decide +kernel), List.mem_of_getElem? (i := 264) (by decide +kernel), List.mem_of_getElem? (i := 265) (by decide +kernel)⟩
theorem lw_p6 : lw_okq (⟨"BallastTrack$Text", "fail", "(I)I"⟩, 4) := ⟨⟨by decide +kernel, by decide +kernel⟩, List.mem_of_getElem? (i := 132) (by decide +kernel), List.mem_of_getElem? (i := 268) (by decide +kernel), List.mem_of_getElem? (i := 269) (by decide +kernel)⟩
theorem lw_p7 : lw_okq (⟨"BallastTrack$Text", "readNumber", "(III)I"⟩, 4) := ⟨⟨by decide +kernel, by decide +kernel⟩, List.mem_of_getElem? (i := 132) (by decide +kernel), List.mem_of_getElem? (i := 272) (by decide +kernel), List.mem_of_getElem? (i := 273) (by decide +kernel)⟩
theorem lw_p8 : lw_okq (⟨"BallastTrack", "isStretch", "(II)Z"⟩, 8) := ⟨⟨by decide +kernel, by decide +kernel⟩, List.mem_of_getElem? (i := 11) (by decide +kernel), List.mem_of_getElem? (i := 289) (by decide +kernel), List.mem_of_getElem? (i := 290) (by decide +kernel)⟩
theorem lw_p9 : lw_okq (⟨"BallastTrack$State", "goOn", "()V"⟩, 9) := ⟨⟨by decide +kernel, by decide +kernel⟩, List.mem_of_getElem? (i := 19) (by decide +kernel), List.mem_of_getElem? (i := 341) (by decide +kernel), List.mem_of_getElem? (i := 342) (by decide +kernel)⟩
theorem lw_p10 : lw_okq (⟨"BallastTrack$Survey", "findHeights", "()V"⟩, 8) := ⟨⟨by decide +kernel, by decide +kernel⟩, List.mem_of_getElem? (i := 72) (by decide +kernel), List.mem_of_getElem? (i := 357) (by decide +kernel), List.mem_of_getElem? (i := 358) (by decide +kernel)⟩
theorem lw_p11 : lw_okq (⟨"BallastTrack$Survey", "findHanging", "()V"⟩, 8) := ⟨⟨by decide +kernel, by decide +kernel⟩, List.mem_of_getElem? (i := 72) (by decide +kernel), List.mem_of_getElem? (i := 364) (by decide +kernel), List.mem_of_getElem? (i := 365) (by decide +kernel)⟩
theorem lw_p12 : lw_okq (⟨"BallastTrack$Survey", "findWorst", "()V"⟩, 8) := ⟨⟨by decide +kernel, by decide +kernel⟩, List.mem_of_getElem? (i := 72) (by decide +kernel), List.mem_of_getElem? (i := 372) (by decide +kernel), List.mem_of_getElem? (i := 373) (by decide +kernel)⟩
theorem lw_p13 : lw_okq (⟨"BallastTrack$Survey", "handOn", "(III)V"⟩, 8) := ⟨⟨by decide +kernel, by decide +kernel⟩, List.mem_of_getElem? (i := 72) (by decide +kernel), List.mem_of_getElem? (i := 395) (by decide +kernel), List.mem_of_getElem? (i := 396) (by decide +kernel)⟩
theorem lw_p14 : lw_okq (⟨"BallastTrack", "keptMask", "()I"⟩, 8) := ⟨⟨by decide +kernel, by decide +kernel⟩, List.mem_of_getElem? (i := 11) (by decide +kernel), List.mem_of_getElem? (i := 434) (by decide +kernel), List.mem_of_getElem? (i := 435) (by decide +kernel)⟩
theorem lw_p15 : lw_okq (⟨"BallastTrack", "surveyed", "(II)I"⟩, 8) := ⟨⟨by decide +kernel, by decide +kernel⟩, List.mem_of_getElem? (i := 11) (by decide +kernel), List.mem_of_getElem? (i := 442) (by decide +kernel), List.mem_of_getElem? (i := 443) (by decide +kernel)⟩
def lw_privs_1 : List (MethodName × Nat) := [(⟨"BallastTrack", "leastNumber", "(I)I"⟩, 8), (⟨"BallastTrack", "greatestNumber", "(I)I"⟩, 8), (⟨"BallastTrack$Text", "skipSpaces", "()V"⟩, 4), (⟨"BallastTrack$Text", "readItem", "(LBallastTrack$State;)Z"⟩, 4), (⟨"BallastTrack$Text", "takes", "(C)Z"⟩, 4), (⟨"BallastTrack$Text", "expects", "(C)Z"⟩, 4), (⟨"BallastTrack$Text", "fail", "(I)I"⟩, 4), (⟨"BallastTrack$Text", "readNumber", "(III)I"⟩, 4), (⟨"BallastTrack", "isStretch", "(II)Z"⟩, 8), (⟨"BallastTrack$State", "goOn", "()V"⟩, 9), (⟨"BallastTrack$Survey", "findHeights", "()V"⟩, 8), (⟨"BallastTrack$Survey", "findHanging", "()V"⟩, 8), (⟨"BallastTrack$Survey", "findWorst", "()V"⟩, 8), (⟨"BallastTrack$Survey", "handOn", "(III)V"⟩, 8), (⟨"BallastTrack", "keptMask", "()I"⟩, 8), (⟨"BallastTrack", "surveyed", "(II)I"⟩, 8)]
theorem lw_r1 : ∀ q ∈ lw_privs_1, lw_okq q := List.forall_mem_cons.mpr ⟨lw_p0, List.forall_mem_cons.mpr ⟨lw_p1, List.forall_mem_cons.mpr ⟨lw_p2, List.forall_mem_cons.mpr ⟨lw_p3, List.forall_mem_cons.mpr ⟨lw_p4, List.forall_mem_cons.mpr ⟨lw_p5, List.forall_mem_cons.mpr ⟨lw_p6, List.forall_mem_cons.mpr ⟨lw_p7, List.forall_mem_cons.mpr ⟨lw_p8, List.forall_mem_cons.mpr ⟨lw_p9, List.forall_mem_cons.mpr ⟨lw_p10, List.forall_mem_cons.mpr ⟨lw_p11, List.forall_mem_cons.mpr ⟨lw_p12, List.forall_mem_cons.mpr ⟨lw_p13, List.forall_mem_cons.mpr ⟨lw_p14, List.forall_mem_cons.mpr ⟨lw_p15, fun _ h => absurd h List.not_mem_nil⟩⟩⟩⟩⟩⟩⟩⟩⟩⟩⟩⟩⟩⟩⟩⟩
theorem lw_p16 : lw_okq (⟨"BallastTrack", "voidsWithRow", "(III)I"⟩, 8) := ⟨⟨by decide +kernel, by decide +kernel⟩, List.mem_of_getElem? (i := 11) (by decide +kernel), List.mem_of_getElem? (i := 485) (by decide +kernel), List.mem_of_getElem? (i := 486) (by decide +kernel)⟩
theorem lw_p17 : lw_okq (⟨"BallastTrackModel", "notes", "()V"⟩, 12) := ⟨⟨by decide +kernel, by decide +kernel⟩, List.mem_of_getElem? (i := 495) (by decide +kernel), List.mem_of_getElem? (i := 552) (by decide +kernel), List.mem_of_getElem? (i := 553) (by decide +kernel)⟩
theorem lw_p18 : lw_okq (⟨"BallastTrackModel", "isNumber", "(II)Z"⟩, 12) := ⟨⟨by decide +kernel, by decide +kernel⟩, List.mem_of_getElem? (i := 495) (by decide +kernel), List.mem_of_getElem? (i := 560) (by decide +kernel), List.mem_of_getElem? (i := 561) (by decide +kernel)⟩
theorem lw_p19 : lw_okq (⟨"BallastTrackModel", "isSleeper", "(I)Z"⟩, 12) := ⟨⟨by decide +kernel, by decide +kernel⟩, List.mem_of_getElem? (i := 495) (by decide +kernel), List.mem_of_getElem? (i := 568) (by decide +kernel), List.mem_of_getElem? (i := 569) (by decide +kernel)⟩
theorem lw_p20 : lw_okq (⟨"BallastTrackModel", "puts", "(II)V"⟩, 12) := ⟨⟨by decide +kernel, by decide +kernel⟩, List.mem_of_getElem? (i := 495) (by decide +kernel), List.mem_of_getElem? (i := 575) (by decide +kernel), List.mem_of_getElem? (i := 576) (by decide +kernel)⟩
theorem lw_p21 : lw_okq (⟨"BallastTrackModel", "putAside", "()V"⟩, 12) := ⟨⟨by decide +kernel, by decide +kernel⟩, List.mem_of_getElem? (i := 495) (by decide +kernel), List.mem_of_getElem? (i := 592) (by decide +kernel), List.mem_of_getElem? (i := 593) (by decide +kernel)⟩
theorem lw_p22 : lw_okq (⟨"BallastTrackModel", "here", "()I"⟩, 12) := ⟨⟨by decide +kernel, by decide +kernel⟩, List.mem_of_getElem? (i := 495) (by decide +kernel), List.mem_of_getElem? (i := 596) (by decide +kernel), List.mem_of_getElem? (i := 597) (by decide +kernel)⟩
theorem lw_p23 : lw_okq (⟨"BallastTrackModel", "readsItem", "()Z"⟩, 12) := ⟨⟨by decide +kernel, by decide +kernel⟩, List.mem_of_getElem? (i := 495) (by decide +kernel), List.mem_of_getElem? (i := 600) (by decide +kernel), List.mem_of_getElem? (i := 601) (by decide +kernel)⟩
theorem lw_p24 : lw_okq (⟨"BallastTrackModel", "reads", "(III)Z"⟩, 12) := ⟨⟨by decide +kernel, by decide +kernel⟩, List.mem_of_getElem? (i := 495) (by decide +kernel), List.mem_of_getElem? (i := 604) (by decide +kernel), List.mem_of_getElem? (i := 605) (by decide +kernel)⟩
theorem lw_p25 : lw_okq (⟨"BallastTrackModel", "takes", "(I)Z"⟩, 12) := ⟨⟨by decide +kernel, by decide +kernel⟩, List.mem_of_getElem? (i := 495) (by decide +kernel), List.mem_of_getElem? (i := 608) (by decide +kernel), List.mem_of_getElem? (i := 609) (by decide +kernel)⟩
theorem lw_p26 : lw_okq (⟨"BallastTrackModel", "putBack", "()V"⟩, 12) := ⟨⟨by decide +kernel, by decide +kernel⟩, List.mem_of_getElem? (i := 495) (by decide +kernel), List.mem_of_getElem? (i := 613) (by decide +kernel), List.mem_of_getElem? (i := 614) (by decide +kernel)⟩
theorem lw_p27 : lw_okq (⟨"BallastTrackModel", "jobOf", "(II)I"⟩, 12) := ⟨⟨by decide +kernel, by decide +kernel⟩, List.mem_of_getElem? (i := 495) (by decide +kernel), List.mem_of_getElem? (i := 629) (by decide +kernel), List.mem_of_getElem? (i := 630) (by decide +kernel)⟩
theorem lw_p28 : lw_okq (⟨"BallastTrackModel", "drops", "(I)V"⟩, 12) := ⟨⟨by decide +kernel, by decide +kernel⟩, List.mem_of_getElem? (i := 495) (by decide +kernel), List.mem_of_getElem? (i := 633) (by decide +kernel), List.mem_of_getElem? (i := 634) (by decide +kernel)⟩
theorem lw_p29 : lw_okq (⟨"BallastTrackModel", "works", "(I)I"⟩, 12) := ⟨⟨by decide +kernel, by decide +kernel⟩, List.mem_of_getElem? (i := 495) (by decide +kernel), List.mem_of_getElem? (i := 641) (by decide +kernel), List.mem_of_getElem? (i := 642) (by decide +kernel)⟩
theorem lw_p30 : lw_okq (⟨"BallastTrackModel", "liftOf", "(II)I"⟩, 12) := ⟨⟨by decide +kernel, by decide +kernel⟩, List.mem_of_getElem? (i := 495) (by decide +kernel), List.mem_of_getElem? (i := 645) (by decide +kernel), List.mem_of_getElem? (i := 646) (by decide +kernel)⟩
theorem lw_p31 : lw_okq (⟨"BallastTrackModel", "lift", "(II)V"⟩, 12) := ⟨⟨by decide +kernel, by decide +kernel⟩, List.mem_of_getElem? (i := 495) (by decide +kernel), List.mem_of_getElem? (i := 655) (by decide +kernel), List.mem_of_getElem? (i := 656) (by decide +kernel)⟩
def lw_privs_2 : List (MethodName × Nat) := [(⟨"BallastTrack", "voidsWithRow", "(III)I"⟩, 8), (⟨"BallastTrackModel", "notes", "()V"⟩, 12), (⟨"BallastTrackModel", "isNumber", "(II)Z"⟩, 12), (⟨"BallastTrackModel", "isSleeper", "(I)Z"⟩, 12), (⟨"BallastTrackModel", "puts", "(II)V"⟩, 12), (⟨"BallastTrackModel", "putAside", "()V"⟩, 12), (⟨"BallastTrackModel", "here", "()I"⟩, 12), (⟨"BallastTrackModel", "readsItem", "()Z"⟩, 12), (⟨"BallastTrackModel", "reads", "(III)Z"⟩, 12), (⟨"BallastTrackModel", "takes", "(I)Z"⟩, 12), (⟨"BallastTrackModel", "putBack", "()V"⟩, 12), (⟨"BallastTrackModel", "jobOf", "(II)I"⟩, 12), (⟨"BallastTrackModel", "drops", "(I)V"⟩, 12), (⟨"BallastTrackModel", "works", "(I)I"⟩, 12), (⟨"BallastTrackModel", "liftOf", "(II)I"⟩, 12), (⟨"BallastTrackModel", "lift", "(II)V"⟩, 12)]
theorem lw_r2 : ∀ q ∈ lw_privs_2, lw_okq q := List.forall_mem_cons.mpr ⟨lw_p16, List.forall_mem_cons.mpr ⟨lw_p17, List.forall_mem_cons.mpr ⟨lw_p18, List.forall_mem_cons.mpr ⟨lw_p19, List.forall_mem_cons.mpr ⟨lw_p20, List.forall_mem_cons.mpr ⟨lw_p21, List.forall_mem_cons.mpr ⟨lw_p22, List.forall_mem_cons.mpr ⟨lw_p23, List.forall_mem_cons.mpr ⟨lw_p24, List.forall_mem_cons.mpr ⟨lw_p25, List.forall_mem_cons.mpr ⟨lw_p26, List.forall_mem_cons.mpr ⟨lw_p27, List.forall_mem_cons.mpr ⟨lw_p28, List.forall_mem_cons.mpr ⟨lw_p29, List.forall_mem_cons.mpr ⟨lw_p30, List.forall_mem_cons.mpr ⟨lw_p31, fun _ h => absurd h List.not_mem_nil⟩⟩⟩⟩⟩⟩⟩⟩⟩⟩⟩⟩⟩⟩⟩⟩
theorem lw_p32 : lw_okq (⟨"BallastTrackModel", "laysRail", "()V"⟩, 12) := ⟨⟨by decide +kernel, by decide +kernel⟩, List.mem_of_getElem? (i := 495) (by decide +kernel), List.mem_of_getElem? (i := 666) (by decide +kernel), List.mem_of_getElem? (i := 667) (by decide +kernel)⟩
theorem lw_p33 : lw_okq (⟨"BallastTrackModel", "order", "()I"⟩, 12) := ⟨⟨by decide +kernel, by decide +kernel⟩, List.mem_of_getElem? (i := 495) (by decide +kernel), List.mem_of_getElem? (i := 676) (by decide +kernel), List.mem_of_getElem? (i := 677) (by decide +kernel)⟩
theorem lw_p34 : lw_okq (⟨"BallastTrackModel", "orderAt", "(I)I"⟩, 12) := ⟨⟨by decide +kernel, by decide +kernel⟩, List.mem_of_getElem? (i := 495) (by decide +kernel), List.mem_of_getElem? (i := 680) (by decide +kernel), List.mem_of_getElem? (i := 681) (by decide +kernel)⟩
theorem lw_p35 : lw_okq (⟨"BallastTrackModel", "defect", "(I)I"⟩, 12) := ⟨⟨by decide +kernel, by decide +kernel⟩, List.mem_of_getElem? (i := 495) (by decide +kernel), List.mem_of_getElem? (i := 684) (by decide +kernel), List.mem_of_getElem? (i := 685) (by decide +kernel)⟩
theorem lw_p36 : lw_okq (⟨"BallastTrackModel", "passes", "(III)V"⟩, 12) := ⟨⟨by decide +kernel, by decide +kernel⟩, List.mem_of_getElem? (i := 495) (by decide +kernel), List.mem_of_getElem? (i := 688) (by decide +kernel), List.mem_of_getElem? (i := 689) (by decide +kernel)⟩
theorem lw_p37 : lw_okq (⟨"BallastTrackModel", "laysLoads", "()V"⟩, 12) := ⟨⟨by decide +kernel, by decide +kernel⟩, List.mem_of_getElem? (i := 495) (by decide +kernel), List.mem_of_getElem? (i := 692) (by decide +kernel), List.mem_of_getElem? (i := 693) (by decide +kernel)⟩
theorem lw_p38 : lw_okq (⟨"BallastTrackModel", "hangs", "(I)Z"⟩, 12) := ⟨⟨by decide +kernel, by decide +kernel⟩, List.mem_of_getElem? (i := 495) (by decide +kernel), List.mem_of_getElem? (i := 696) (by decide +kernel), List.mem_of_getElem? (i := 697) (by decide +kernel)⟩
theorem lw_p39 : lw_okq (⟨"BallastTrackModel", "voidAt", "(I)I"⟩, 12) := ⟨⟨by decide +kernel, by decide +kernel⟩, List.mem_of_getElem? (i := 495) (by decide +kernel), List.mem_of_getElem? (i := 700) (by decide +kernel), List.mem_of_getElem? (i := 701) (by decide +kernel)⟩
theorem lw_p40 : lw_okq (⟨"BallastTrackModel", "nearest", "(II)I"⟩, 12) := ⟨⟨by decide +kernel, by decide +kernel⟩, List.mem_of_getElem? (i := 495) (by decide +kernel), List.mem_of_getElem? (i := 704) (by decide +kernel), List.mem_of_getElem? (i := 705) (by decide +kernel)⟩
theorem lw_p41 : lw_okq (⟨"BallastTrackModel", "hanging", "()I"⟩, 12) := ⟨⟨by decide +kernel, by decide +kernel⟩, List.mem_of_getElem? (i := 495) (by decide +kernel), List.mem_of_getElem? (i := 725) (by decide +kernel), List.mem_of_getElem? (i := 726) (by decide +kernel)⟩
theorem lw_p42 : lw_okq (⟨"BallastTrackModel", "voidsWith", "(III)I"⟩, 12) := ⟨⟨by decide +kernel, by decide +kernel⟩, List.mem_of_getElem? (i := 495) (by decide +kernel), List.mem_of_getElem? (i := 762) (by decide +kernel), List.mem_of_getElem? (i := 763) (by decide +kernel)⟩
def lw_privs_3 : List (MethodName × Nat) := [(⟨"BallastTrackModel", "laysRail", "()V"⟩, 12), (⟨"BallastTrackModel", "order", "()I"⟩, 12), (⟨"BallastTrackModel", "orderAt", "(I)I"⟩, 12), (⟨"BallastTrackModel", "defect", "(I)I"⟩, 12), (⟨"BallastTrackModel", "passes", "(III)V"⟩, 12), (⟨"BallastTrackModel", "laysLoads", "()V"⟩, 12), (⟨"BallastTrackModel", "hangs", "(I)Z"⟩, 12), (⟨"BallastTrackModel", "voidAt", "(I)I"⟩, 12), (⟨"BallastTrackModel", "nearest", "(II)I"⟩, 12), (⟨"BallastTrackModel", "hanging", "()I"⟩, 12), (⟨"BallastTrackModel", "voidsWith", "(III)I"⟩, 12)]
theorem lw_r3 : ∀ q ∈ lw_privs_3, lw_okq q := List.forall_mem_cons.mpr ⟨lw_p32, List.forall_mem_cons.mpr ⟨lw_p33, List.forall_mem_cons.mpr ⟨lw_p34, List.forall_mem_cons.mpr ⟨lw_p35, List.forall_mem_cons.mpr ⟨lw_p36, List.forall_mem_cons.mpr ⟨lw_p37, List.forall_mem_cons.mpr ⟨lw_p38, List.forall_mem_cons.mpr ⟨lw_p39, List.forall_mem_cons.mpr ⟨lw_p40, List.forall_mem_cons.mpr ⟨lw_p41, List.forall_mem_cons.mpr ⟨lw_p42, fun _ h => absurd h List.not_mem_nil⟩⟩⟩⟩⟩⟩⟩⟩⟩⟩⟩
def lw_privs : List (MethodName × Nat) := lw_privs_1 ++ (lw_privs_2 ++ (lw_privs_3))
def lw_tbl : List Cond := k2_sels lw_privs ++ tables_1
theorem lw_privs_ok : ∀ q ∈ lw_privs, lw_okq q := by
  show ∀ q ∈ lw_privs_1 ++ (lw_privs_2 ++ (lw_privs_3)), lw_okq q
  exact List.forall_mem_append.mpr ⟨lw_r1, List.forall_mem_append.mpr ⟨lw_r2, lw_r3⟩⟩
-- ===== end of PART A; then your names; then what follows =====
/-! ===== BEGIN words of one list among another's, by their places ===== -/
theorem goodIn_r {big : List Cond} (ws : List Cond) (ps : List Nat) (hp : ws = ps.filterMap (fun i => big[i]?)) (h : ws.all goodWord = true) : GoodIn big ws := by
  intro w hw
  have h1 := List.all_eq_true.mp h w hw
  rw [hp] at hw
  obtain ⟨i, -, hi⟩ := List.mem_filterMap.mp hw
  have hm : w ∈ big := by first | exact List.mem_of_getElem? hi | exact List.getElem?_mem hi
  exact ⟨hm, good_of_word h1⟩
theorem goodIn_app {big a b : List Cond} (ha : GoodIn big a) (hb : GoodIn big b) : GoodIn big (a ++ b) := fun w h => (List.mem_append.mp h).elim (ha w) (hb w)
theorem goodIn_ca {big a b : List Cond} {c : Cond} (ha : GoodIn big (c :: a)) (hb : GoodIn big b) : GoodIn big (c :: (a ++ b)) := fun w h => (List.mem_cons.mp h).elim (fun e => ha w (List.mem_cons.mpr (Or.inl e))) (fun h => (List.mem_append.mp h).elim (fun h => ha w (List.mem_cons.mpr (Or.inr h))) (hb w))
theorem goodIn_sub {big ws : List Cond} (hm : ∀ w ∈ ws, w ∈ big) (h : ws.all goodWord = true) : GoodIn big ws := fun w hw => ⟨hm w hw, good_of_word (List.all_eq_true.mp h w hw)⟩
/-! ===== END ===== -/

/-! ===== BEGIN printed: names, fields, word lists, decode rows ===== -/
def RX0 : String := "BallastTrack$History"
def TX0 : u_T := fun k => match k with
  | 0 => ("BallastTrack$History", "rows", "[LBallastTrack$State;", true)
  | 1 => ("BallastTrack$History", "oldest", "I", false)
  | _ => ("BallastTrack$History", "size", "I", false)
def tyX0 : Nat → FieldType := fun k => match k with
  | 0 => .array (.object "BallastTrack$State")
  | 1 => .int
  | _ => .int
abbrev wsX00 : List Cond := u_ws RX0 TX0 3
theorem nmX0 : ∀ a, a < 3 → ∀ b, b < 3 → a ≠ b → (TX0 a).2.1 ≠ (TX0 b).2.1 := by decide +kernel
theorem tyX0_ok : ∀ k, k < 3 → parseFieldDescriptor (TX0 k).2.2.1 = some (tyX0 k) := by decide +kernel
abbrev cX0_init : ByteArray := prog_2_method_1_code
def yX0_init : MethodName := ⟨RX0, "<init>", "()V"⟩
abbrev cX0_save : ByteArray := prog_2_method_2_code
def yX0_save : MethodName := ⟨RX0, "save", "(LBallastTrack$State;)V"⟩
abbrev cX0_restore : ByteArray := prog_2_method_3_code
def yX0_restore : MethodName := ⟨RX0, "restore", "(LBallastTrack$State;)V"⟩
def RX1 : String := "BallastTrack$State"
def TX1 : u_T := fun k => match k with
  | 0 => ("BallastTrack$State", "sleepers", "I", false)
  | 1 => ("BallastTrack$State", "jobs", "I", false)
  | 2 => ("BallastTrack$State", "numbers", "[I", true)
  | 3 => ("BallastTrack$State", "levels", "[I", true)
  | 4 => ("BallastTrack$State", "foulings", "[I", true)
  | 5 => ("BallastTrack$State", "settled", "[I", true)
  | 6 => ("BallastTrack$State", "lifted", "[I", true)
  | 7 => ("BallastTrack$State", "jobRows", "[I", true)
  | _ => ("BallastTrack$State", "accounts", "[I", true)
def tyX1 : Nat → FieldType := fun k => match k with
  | 0 => .int
  | 1 => .int
  | 2 => .array .int
  | 3 => .array .int
  | 4 => .array .int
  | 5 => .array .int
  | 6 => .array .int
  | 7 => .array .int
  | _ => .array .int
abbrev wsX10 : List Cond := u_ws RX1 TX1 9
theorem nmX1 : ∀ a, a < 9 → ∀ b, b < 9 → a ≠ b → (TX1 a).2.1 ≠ (TX1 b).2.1 := by decide +kernel
theorem tyX1_ok : ∀ k, k < 9 → parseFieldDescriptor (TX1 k).2.2.1 = some (tyX1 k) := by decide +kernel
abbrev cX1_init : ByteArray := prog_3_method_1_code
def yX1_init : MethodName := ⟨RX1, "<init>", "()V"⟩
abbrev cX1_copyFrom : ByteArray := prog_3_method_2_code
def yX1_copyFrom : MethodName := ⟨RX1, "copyFrom", "(LBallastTrack$State;)V"⟩
abbrev cX1_makeNew : ByteArray := prog_3_method_3_code
def yX1_makeNew : MethodName := ⟨RX1, "makeNew", "(I)V"⟩
abbrev cX1_has : ByteArray := prog_3_method_4_code
def yX1_has : MethodName := ⟨RX1, "has", "(I)Z"⟩
abbrev cX1_putLevel : ByteArray := prog_3_method_5_code
def yX1_putLevel : MethodName := ⟨RX1, "putLevel", "(II)V"⟩
abbrev cX1_foul : ByteArray := prog_3_method_6_code
def yX1_foul : MethodName := ⟨RX1, "foul", "(II)V"⟩
abbrev cX1_settle : ByteArray := prog_3_method_7_code
def yX1_settle : MethodName := ⟨RX1, "settle", "(II)V"⟩
abbrev cX1_raise : ByteArray := prog_3_method_8_code
def yX1_raise : MethodName := ⟨RX1, "raise", "(II)V"⟩
abbrev cX1_liftOf : ByteArray := prog_3_method_9_code
def yX1_liftOf : MethodName := ⟨RX1, "liftOf", "(II)I"⟩
abbrev cX1_jobValue : ByteArray := prog_3_method_10_code
def yX1_jobValue : MethodName := ⟨RX1, "jobValue", "(II)I"⟩
abbrev cX1_appendJob : ByteArray := prog_3_method_11_code
def yX1_appendJob : MethodName := ⟨RX1, "appendJob", "(III)V"⟩
abbrev cX1_removeJob : ByteArray := prog_3_method_12_code
def yX1_removeJob : MethodName := ⟨RX1, "removeJob", "(I)V"⟩
abbrev cX1_tamp : ByteArray := prog_3_method_13_code
def yX1_tamp : MethodName := ⟨RX1, "tamp", "(I)I"⟩
abbrev cX1_goOn : ByteArray := prog_3_method_14_code
def yX1_goOn : MethodName := ⟨RX1, "goOn", "()V"⟩
def RX2 : String := "BallastTrack$Survey"
def TX2 : u_T := fun k => match k with
  | 0 => ("BallastTrack$Survey", "track", "LBallastTrack$State;", true)
  | 1 => ("BallastTrack$Survey", "heights", "[I", true)
  | 2 => ("BallastTrack$Survey", "loads", "[I", true)
  | 3 => ("BallastTrack$Survey", "hanging", "[Z", true)
  | 4 => ("BallastTrack$Survey", "hangingCount", "I", false)
  | 5 => ("BallastTrack$Survey", "worst", "I", false)
  | 6 => ("BallastTrack$Survey", "worstSize", "I", false)
  | _ => ("BallastTrack$Survey", "order", "I", false)
def tyX2 : Nat → FieldType := fun k => match k with
  | 0 => .object "BallastTrack$State"
  | 1 => .array .int
  | 2 => .array .int
  | 3 => .array .boolean
  | 4 => .int
  | 5 => .int
  | 6 => .int
  | _ => .int
abbrev wsX20 : List Cond := u_ws RX2 TX2 8
theorem nmX2 : ∀ a, a < 8 → ∀ b, b < 8 → a ≠ b → (TX2 a).2.1 ≠ (TX2 b).2.1 := by decide +kernel
theorem tyX2_ok : ∀ k, k < 8 → parseFieldDescriptor (TX2 k).2.2.1 = some (tyX2 k) := by decide +kernel
abbrev cX2_init : ByteArray := prog_4_method_1_code
def yX2_init : MethodName := ⟨RX2, "<init>", "(LBallastTrack$State;)V"⟩
abbrev cX2_look : ByteArray := prog_4_method_2_code
def yX2_look : MethodName := ⟨RX2, "look", "()V"⟩
abbrev cX2_voidAt : ByteArray := prog_4_method_3_code
def yX2_voidAt : MethodName := ⟨RX2, "voidAt", "(I)I"⟩
abbrev cX2_defectAt : ByteArray := prog_4_method_4_code
def yX2_defectAt : MethodName := ⟨RX2, "defectAt", "(I)I"⟩
abbrev cX2_orderOf : ByteArray := prog_4_method_5_code
def yX2_orderOf : MethodName := ⟨RX2, "orderOf", "(I)I"⟩
abbrev cX2_greatestOfAll : ByteArray := prog_4_method_6_code
def yX2_greatestOfAll : MethodName := ⟨RX2, "greatestOfAll", "(I)I"⟩
abbrev cX2_findLoads : ByteArray := prog_4_method_7_code
def yX2_findLoads : MethodName := ⟨RX2, "findLoads", "()V"⟩
abbrev cX2_handOn : ByteArray := prog_4_method_8_code
def yX2_handOn : MethodName := ⟨RX2, "handOn", "(III)V"⟩
abbrev cX2_findHeights : ByteArray := prog_4_method_9_code
def yX2_findHeights : MethodName := ⟨RX2, "findHeights", "()V"⟩
abbrev cX2_findHanging : ByteArray := prog_4_method_10_code
def yX2_findHanging : MethodName := ⟨RX2, "findHanging", "()V"⟩
abbrev cX2_findWorst : ByteArray := prog_4_method_11_code
def yX2_findWorst : MethodName := ⟨RX2, "findWorst", "()V"⟩
def RX3 : String := "BallastTrack$Text"
def TX3 : u_T := fun k => match k with
  | 0 => ("BallastTrack$Text", "characters", "[I", true)
  | 1 => ("BallastTrack$Text", "length", "I", false)
  | 2 => ("BallastTrack$Text", "errorPosition", "I", false)
  | _ => ("BallastTrack$Text", "position", "I", false)
def tyX3 : Nat → FieldType := fun k => match k with
  | 0 => .array .int
  | 1 => .int
  | 2 => .int
  | _ => .int
abbrev wsX30 : List Cond := u_ws RX3 TX3 4
theorem nmX3 : ∀ a, a < 4 → ∀ b, b < 4 → a ≠ b → (TX3 a).2.1 ≠ (TX3 b).2.1 := by decide +kernel
theorem tyX3_ok : ∀ k, k < 4 → parseFieldDescriptor (TX3 k).2.2.1 = some (tyX3 k) := by decide +kernel
abbrev cX3_init : ByteArray := prog_5_method_1_code
def yX3_init : MethodName := ⟨RX3, "<init>", "()V"⟩
abbrev cX3_readInto : ByteArray := prog_5_method_2_code
def yX3_readInto : MethodName := ⟨RX3, "readInto", "(LBallastTrack$State;)I"⟩
abbrev cX3_readItem : ByteArray := prog_5_method_3_code
def yX3_readItem : MethodName := ⟨RX3, "readItem", "(LBallastTrack$State;)Z"⟩
abbrev cX3_put : ByteArray := prog_5_method_4_code
def yX3_put : MethodName := ⟨RX3, "put", "(LBallastTrack$State;ZIII)V"⟩
abbrev cX3_readNumber : ByteArray := prog_5_method_5_code
def yX3_readNumber : MethodName := ⟨RX3, "readNumber", "(III)I"⟩
abbrev cX3_isDigit : ByteArray := prog_5_method_6_code
def yX3_isDigit : MethodName := ⟨RX3, "isDigit", "(I)Z"⟩
abbrev cX3_takes : ByteArray := prog_5_method_7_code
def yX3_takes : MethodName := ⟨RX3, "takes", "(C)Z"⟩
abbrev cX3_expects : ByteArray := prog_5_method_8_code
def yX3_expects : MethodName := ⟨RX3, "expects", "(C)Z"⟩
abbrev cX3_fail : ByteArray := prog_5_method_9_code
def yX3_fail : MethodName := ⟨RX3, "fail", "(I)I"⟩
abbrev cX3_skipSpaces : ByteArray := prog_5_method_10_code
def yX3_skipSpaces : MethodName := ⟨RX3, "skipSpaces", "()V"⟩
def RX4 : String := "BallastTrack"
def TX4 : u_T := fun k => match k with
  | 0 => ("BallastTrack", "now", "LBallastTrack$State;", true)
  | 1 => ("BallastTrack", "survey", "LBallastTrack$Survey;", true)
  | 2 => ("BallastTrack", "trial", "LBallastTrack$State;", true)
  | 3 => ("BallastTrack", "trialSurvey", "LBallastTrack$Survey;", true)
  | 4 => ("BallastTrack", "history", "LBallastTrack$History;", true)
  | 5 => ("BallastTrack", "text", "LBallastTrack$Text;", true)
  | 6 => ("BallastTrack", "images", "[LBallastTrack$State;", true)
  | _ => ("BallastTrack", "kept", "[Z", true)
def tyX4 : Nat → FieldType := fun k => match k with
  | 0 => .object "BallastTrack$State"
  | 1 => .object "BallastTrack$Survey"
  | 2 => .object "BallastTrack$State"
  | 3 => .object "BallastTrack$Survey"
  | 4 => .object "BallastTrack$History"
  | 5 => .object "BallastTrack$Text"
  | 6 => .array (.object "BallastTrack$State")
  | _ => .array .boolean
abbrev wsX40 : List Cond := u_ws RX4 TX4 8
theorem nmX4 : ∀ a, a < 8 → ∀ b, b < 8 → a ≠ b → (TX4 a).2.1 ≠ (TX4 b).2.1 := by decide +kernel
theorem tyX4_ok : ∀ k, k < 8 → parseFieldDescriptor (TX4 k).2.2.1 = some (tyX4 k) := by decide +kernel
abbrev cX4_init : ByteArray := prog_1_method_1_code
def yX4_init : MethodName := ⟨RX4, "<init>", "()V"⟩
abbrev cX4_begin : ByteArray := prog_1_method_2_code
def yX4_begin : MethodName := ⟨RX4, "begin", "(I)I"⟩
abbrev cX4_setNumber : ByteArray := prog_1_method_3_code
def yX4_setNumber : MethodName := ⟨RX4, "setNumber", "(II)I"⟩
abbrev cX4_setLevel : ByteArray := prog_1_method_4_code
def yX4_setLevel : MethodName := ⟨RX4, "setLevel", "(II)I"⟩
abbrev cX4_appendCharacter : ByteArray := prog_1_method_5_code
def yX4_appendCharacter : MethodName := ⟨RX4, "appendCharacter", "(I)I"⟩
abbrev cX4_clearText : ByteArray := prog_1_method_6_code
def yX4_clearText : MethodName := ⟨RX4, "clearText", "()I"⟩
abbrev cX4_load : ByteArray := prog_1_method_7_code
def yX4_load : MethodName := ⟨RX4, "load", "()I"⟩
abbrev cX4_renew : ByteArray := prog_1_method_8_code
def yX4_renew : MethodName := ⟨RX4, "renew", "(II)I"⟩
abbrev cX4_addJob : ByteArray := prog_1_method_9_code
def yX4_addJob : MethodName := ⟨RX4, "addJob", "(III)I"⟩
abbrev cX4_cancelJobs : ByteArray := prog_1_method_10_code
def yX4_cancelJobs : MethodName := ⟨RX4, "cancelJobs", "(I)I"⟩
abbrev cX4_work : ByteArray := prog_1_method_11_code
def yX4_work : MethodName := ⟨RX4, "work", "(I)I"⟩
abbrev cX4_trains : ByteArray := prog_1_method_12_code
def yX4_trains : MethodName := ⟨RX4, "trains", "(III)I"⟩
abbrev cX4_keep : ByteArray := prog_1_method_13_code
def yX4_keep : MethodName := ⟨RX4, "keep", "(I)I"⟩
abbrev cX4_back : ByteArray := prog_1_method_14_code
def yX4_back : MethodName := ⟨RX4, "back", "(I)I"⟩
abbrev cX4_undo : ByteArray := prog_1_method_15_code
def yX4_undo : MethodName := ⟨RX4, "undo", "()I"⟩
abbrev cX4_count : ByteArray := prog_1_method_16_code
def yX4_count : MethodName := ⟨RX4, "count", "(I)I"⟩
abbrev cX4_sleeper : ByteArray := prog_1_method_17_code
def yX4_sleeper : MethodName := ⟨RX4, "sleeper", "(II)I"⟩
abbrev cX4_job : ByteArray := prog_1_method_18_code
def yX4_job : MethodName := ⟨RX4, "job", "(II)I"⟩
abbrev cX4_account : ByteArray := prog_1_method_19_code
def yX4_account : MethodName := ⟨RX4, "account", "(I)I"⟩
abbrev cX4_rail : ByteArray := prog_1_method_20_code
def yX4_rail : MethodName := ⟨RX4, "rail", "(II)I"⟩
abbrev cX4_why : ByteArray := prog_1_method_21_code
def yX4_why : MethodName := ⟨RX4, "why", "(I)I"⟩
abbrev cX4_lifts : ByteArray := prog_1_method_22_code
def yX4_lifts : MethodName := ⟨RX4, "lifts", "(II)I"⟩
abbrev cX4_trainsUntil : ByteArray := prog_1_method_23_code
def yX4_trainsUntil : MethodName := ⟨RX4, "trainsUntil", "(III)I"⟩
abbrev cX4_bestRow : ByteArray := prog_1_method_24_code
def yX4_bestRow : MethodName := ⟨RX4, "bestRow", "(III)I"⟩
abbrev cX4_minutesLeft : ByteArray := prog_1_method_25_code
def yX4_minutesLeft : MethodName := ⟨RX4, "minutesLeft", "()I"⟩
abbrev cX4_isWithin : ByteArray := prog_1_method_26_code
def yX4_isWithin : MethodName := ⟨RX4, "isWithin", "(III)Z"⟩
abbrev cX4_isLevel : ByteArray := prog_1_method_27_code
def yX4_isLevel : MethodName := ⟨RX4, "isLevel", "(I)Z"⟩
abbrev cX4_isTrain : ByteArray := prog_1_method_28_code
def yX4_isTrain : MethodName := ⟨RX4, "isTrain", "(II)Z"⟩
abbrev cX4_isStretch : ByteArray := prog_1_method_29_code
def yX4_isStretch : MethodName := ⟨RX4, "isStretch", "(II)Z"⟩
abbrev cX4_leastNumber : ByteArray := prog_1_method_30_code
def yX4_leastNumber : MethodName := ⟨RX4, "leastNumber", "(I)I"⟩
abbrev cX4_greatestNumber : ByteArray := prog_1_method_31_code
def yX4_greatestNumber : MethodName := ⟨RX4, "greatestNumber", "(I)I"⟩
abbrev cX4_keptMask : ByteArray := prog_1_method_32_code
def yX4_keptMask : MethodName := ⟨RX4, "keptMask", "()I"⟩
abbrev cX4_surveyed : ByteArray := prog_1_method_33_code
def yX4_surveyed : MethodName := ⟨RX4, "surveyed", "(II)I"⟩
abbrev cX4_voidsWithRow : ByteArray := prog_1_method_34_code
def yX4_voidsWithRow : MethodName := ⟨RX4, "voidsWithRow", "(III)I"⟩
abbrev cX4_passTrain : ByteArray := prog_1_method_35_code
def yX4_passTrain : MethodName := ⟨RX4, "passTrain", "(LBallastTrack$Survey;II)V"⟩
abbrev cX4_settlement : ByteArray := prog_1_method_36_code
def yX4_settlement : MethodName := ⟨RX4, "settlement", "(LBallastTrack$Survey;II)I"⟩
abbrev cX4_shareOf : ByteArray := prog_1_method_37_code
def yX4_shareOf : MethodName := ⟨RX4, "shareOf", "(I)I"⟩
abbrev cX4_minutesLostBy : ByteArray := prog_1_method_38_code
def yX4_minutesLostBy : MethodName := ⟨RX4, "minutesLostBy", "(I)I"⟩
abbrev cX4_minutesFor : ByteArray := prog_1_method_39_code
def yX4_minutesFor : MethodName := ⟨RX4, "minutesFor", "(I)I"⟩
def RX5 : String := "BallastTrackModel"
def TX5 : u_T := fun k => match k with
  | 0 => ("BallastTrackModel", "s", "[I", true)
  | 1 => ("BallastTrackModel", "past", "[I", true)
  | 2 => ("BallastTrackModel", "pasts", "I", false)
  | 3 => ("BallastTrackModel", "images", "[I", true)
  | 4 => ("BallastTrackModel", "kept", "I", false)
  | 5 => ("BallastTrackModel", "aside", "[I", true)
  | 6 => ("BallastTrackModel", "text", "[B", true)
  | 7 => ("BallastTrackModel", "typed", "I", false)
  | 8 => ("BallastTrackModel", "rail", "[I", true)
  | 9 => ("BallastTrackModel", "load", "[I", true)
  | 10 => ("BallastTrackModel", "at", "I", false)
  | _ => ("BallastTrackModel", "number", "I", false)
def tyX5 : Nat → FieldType := fun k => match k with
  | 0 => .array .int
  | 1 => .array .int
  | 2 => .int
  | 3 => .array .int
  | 4 => .int
  | 5 => .array .int
  | 6 => .array .byte
  | 7 => .int
  | 8 => .array .int
  | 9 => .array .int
  | 10 => .int
  | _ => .int
abbrev wsX50 : List Cond := u_ws RX5 TX5 12
theorem nmX5 : ∀ a, a < 12 → ∀ b, b < 12 → a ≠ b → (TX5 a).2.1 ≠ (TX5 b).2.1 := by decide +kernel
theorem tyX5_ok : ∀ k, k < 12 → parseFieldDescriptor (TX5 k).2.2.1 = some (tyX5 k) := by decide +kernel
abbrev cX5_init : ByteArray := prog_7_method_1_code
def yX5_init : MethodName := ⟨RX5, "<init>", "()V"⟩
abbrev cX5_in : ByteArray := prog_7_method_3_code
def yX5_in : MethodName := ⟨RX5, "in", "(III)Z"⟩
abbrev cX5_lesser : ByteArray := prog_7_method_4_code
def yX5_lesser : MethodName := ⟨RX5, "lesser", "(II)I"⟩
abbrev cX5_greater : ByteArray := prog_7_method_5_code
def yX5_greater : MethodName := ⟨RX5, "greater", "(II)I"⟩
abbrev cX5_size : ByteArray := prog_7_method_6_code
def yX5_size : MethodName := ⟨RX5, "size", "(I)I"⟩
abbrev cX5_notes : ByteArray := prog_7_method_7_code
def yX5_notes : MethodName := ⟨RX5, "notes", "()V"⟩
abbrev cX5_undo : ByteArray := prog_7_method_8_code
def yX5_undo : MethodName := ⟨RX5, "undo", "()I"⟩
abbrev cX5_putAside : ByteArray := prog_7_method_9_code
def yX5_putAside : MethodName := ⟨RX5, "putAside", "()V"⟩
abbrev cX5_putBack : ByteArray := prog_7_method_10_code
def yX5_putBack : MethodName := ⟨RX5, "putBack", "()V"⟩
abbrev cX5_isSleeper : ByteArray := prog_7_method_11_code
def yX5_isSleeper : MethodName := ⟨RX5, "isSleeper", "(I)Z"⟩
abbrev cX5_isLevel : ByteArray := prog_7_method_12_code
def yX5_isLevel : MethodName := ⟨RX5, "isLevel", "(I)Z"⟩
abbrev cX5_laysRail : ByteArray := prog_7_method_13_code
def yX5_laysRail : MethodName := ⟨RX5, "laysRail", "()V"⟩
abbrev cX5_voidAt : ByteArray := prog_7_method_14_code
def yX5_voidAt : MethodName := ⟨RX5, "voidAt", "(I)I"⟩
abbrev cX5_hangs : ByteArray := prog_7_method_15_code
def yX5_hangs : MethodName := ⟨RX5, "hangs", "(I)Z"⟩
abbrev cX5_defect : ByteArray := prog_7_method_16_code
def yX5_defect : MethodName := ⟨RX5, "defect", "(I)I"⟩
abbrev cX5_orderAt : ByteArray := prog_7_method_17_code
def yX5_orderAt : MethodName := ⟨RX5, "orderAt", "(I)I"⟩
abbrev cX5_order : ByteArray := prog_7_method_18_code
def yX5_order : MethodName := ⟨RX5, "order", "()I"⟩
abbrev cX5_nearest : ByteArray := prog_7_method_19_code
def yX5_nearest : MethodName := ⟨RX5, "nearest", "(II)I"⟩
abbrev cX5_laysLoads : ByteArray := prog_7_method_20_code
def yX5_laysLoads : MethodName := ⟨RX5, "laysLoads", "()V"⟩
abbrev cX5_begin : ByteArray := prog_7_method_21_code
def yX5_begin : MethodName := ⟨RX5, "begin", "(I)I"⟩
abbrev cX5_isNumber : ByteArray := prog_7_method_22_code
def yX5_isNumber : MethodName := ⟨RX5, "isNumber", "(II)Z"⟩
abbrev cX5_setNumber : ByteArray := prog_7_method_23_code
def yX5_setNumber : MethodName := ⟨RX5, "setNumber", "(II)I"⟩
abbrev cX5_puts : ByteArray := prog_7_method_24_code
def yX5_puts : MethodName := ⟨RX5, "puts", "(II)V"⟩
abbrev cX5_setLevel : ByteArray := prog_7_method_25_code
def yX5_setLevel : MethodName := ⟨RX5, "setLevel", "(II)I"⟩
abbrev cX5_appendCharacter : ByteArray := prog_7_method_26_code
def yX5_appendCharacter : MethodName := ⟨RX5, "appendCharacter", "(I)I"⟩
abbrev cX5_clearText : ByteArray := prog_7_method_27_code
def yX5_clearText : MethodName := ⟨RX5, "clearText", "()I"⟩
abbrev cX5_here : ByteArray := prog_7_method_28_code
def yX5_here : MethodName := ⟨RX5, "here", "()I"⟩
abbrev cX5_takes : ByteArray := prog_7_method_29_code
def yX5_takes : MethodName := ⟨RX5, "takes", "(I)Z"⟩
abbrev cX5_reads : ByteArray := prog_7_method_30_code
def yX5_reads : MethodName := ⟨RX5, "reads", "(III)Z"⟩
abbrev cX5_readsItem : ByteArray := prog_7_method_31_code
def yX5_readsItem : MethodName := ⟨RX5, "readsItem", "()Z"⟩
abbrev cX5_load : ByteArray := prog_7_method_32_code
def yX5_load : MethodName := ⟨RX5, "load", "()I"⟩
abbrev cX5_renew : ByteArray := prog_7_method_33_code
def yX5_renew : MethodName := ⟨RX5, "renew", "(II)I"⟩
abbrev cX5_jobOf : ByteArray := prog_7_method_34_code
def yX5_jobOf : MethodName := ⟨RX5, "jobOf", "(II)I"⟩
abbrev cX5_addJob : ByteArray := prog_7_method_35_code
def yX5_addJob : MethodName := ⟨RX5, "addJob", "(III)I"⟩
abbrev cX5_drops : ByteArray := prog_7_method_36_code
def yX5_drops : MethodName := ⟨RX5, "drops", "(I)V"⟩
abbrev cX5_cancelJobs : ByteArray := prog_7_method_37_code
def yX5_cancelJobs : MethodName := ⟨RX5, "cancelJobs", "(I)I"⟩
abbrev cX5_liftOf : ByteArray := prog_7_method_38_code
def yX5_liftOf : MethodName := ⟨RX5, "liftOf", "(II)I"⟩
abbrev cX5_minutesFor : ByteArray := prog_7_method_39_code
def yX5_minutesFor : MethodName := ⟨RX5, "minutesFor", "(I)I"⟩
abbrev cX5_lift : ByteArray := prog_7_method_40_code
def yX5_lift : MethodName := ⟨RX5, "lift", "(II)V"⟩
abbrev cX5_works : ByteArray := prog_7_method_41_code
def yX5_works : MethodName := ⟨RX5, "works", "(I)I"⟩
abbrev cX5_work : ByteArray := prog_7_method_42_code
def yX5_work : MethodName := ⟨RX5, "work", "(I)I"⟩
abbrev cX5_passes : ByteArray := prog_7_method_43_code
def yX5_passes : MethodName := ⟨RX5, "passes", "(III)V"⟩
abbrev cX5_isTrain : ByteArray := prog_7_method_44_code
def yX5_isTrain : MethodName := ⟨RX5, "isTrain", "(II)Z"⟩
abbrev cX5_trains : ByteArray := prog_7_method_45_code
def yX5_trains : MethodName := ⟨RX5, "trains", "(III)I"⟩
abbrev cX5_isImage : ByteArray := prog_7_method_46_code
def yX5_isImage : MethodName := ⟨RX5, "isImage", "(I)Z"⟩
abbrev cX5_keep : ByteArray := prog_7_method_47_code
def yX5_keep : MethodName := ⟨RX5, "keep", "(I)I"⟩
abbrev cX5_back : ByteArray := prog_7_method_48_code
def yX5_back : MethodName := ⟨RX5, "back", "(I)I"⟩
abbrev cX5_hanging : ByteArray := prog_7_method_49_code
def yX5_hanging : MethodName := ⟨RX5, "hanging", "()I"⟩
abbrev cX5_count : ByteArray := prog_7_method_50_code
def yX5_count : MethodName := ⟨RX5, "count", "(I)I"⟩
abbrev cX5_sleeper : ByteArray := prog_7_method_51_code
def yX5_sleeper : MethodName := ⟨RX5, "sleeper", "(II)I"⟩
abbrev cX5_job : ByteArray := prog_7_method_52_code
def yX5_job : MethodName := ⟨RX5, "job", "(II)I"⟩
abbrev cX5_account : ByteArray := prog_7_method_53_code
def yX5_account : MethodName := ⟨RX5, "account", "(I)I"⟩
abbrev cX5_rail : ByteArray := prog_7_method_54_code
def yX5_rail : MethodName := ⟨RX5, "rail", "(II)I"⟩
abbrev cX5_why : ByteArray := prog_7_method_55_code
def yX5_why : MethodName := ⟨RX5, "why", "(I)I"⟩
abbrev cX5_lifts : ByteArray := prog_7_method_56_code
def yX5_lifts : MethodName := ⟨RX5, "lifts", "(II)I"⟩
abbrev cX5_trainsUntil : ByteArray := prog_7_method_57_code
def yX5_trainsUntil : MethodName := ⟨RX5, "trainsUntil", "(III)I"⟩
abbrev cX5_voidsWith : ByteArray := prog_7_method_58_code
def yX5_voidsWith : MethodName := ⟨RX5, "voidsWith", "(III)I"⟩
abbrev cX5_bestRow : ByteArray := prog_7_method_59_code
def yX5_bestRow : MethodName := ⟨RX5, "bestRow", "(III)I"⟩
abbrev cX5_minutesLeft : ByteArray := prog_7_method_60_code
def yX5_minutesLeft : MethodName := ⟨RX5, "minutesLeft", "()I"⟩
def RJ9 : String := "java/lang/Math"
def TJ9 : u_T := fun k => match k with
  | _ => ("", "", "", false)
def tyJ9 : Nat → FieldType := fun k => match k with
  | _ => .int
abbrev wsJ90 : List Cond := u_ws RJ9 TJ9 0
theorem nmJ9 : ∀ a, a < 0 → ∀ b, b < 0 → a ≠ b → (TJ9 a).2.1 ≠ (TJ9 b).2.1 := by decide +kernel
theorem tyJ9_ok : ∀ k, k < 0 → parseFieldDescriptor (TJ9 k).2.2.1 = some (tyJ9 k) := by decide +kernel
abbrev cJ9_abs_0f7a4 : ByteArray := prog_8_method_59_code
def yJ9_abs_0f7a4 : MethodName := ⟨RJ9, "abs", "(I)I"⟩
abbrev cJ9_max_7cf53 : ByteArray := prog_8_method_65_code
def yJ9_max_7cf53 : MethodName := ⟨RJ9, "max", "(II)I"⟩
abbrev cJ9_min_7cf53 : ByteArray := prog_8_method_69_code
def yJ9_min_7cf53 : MethodName := ⟨RJ9, "min", "(II)I"⟩
def RJ10 : String := "java/lang/System"
def TJ10 : u_T := fun k => match k with
  | _ => ("", "", "", false)
def tyJ10 : Nat → FieldType := fun k => match k with
  | _ => .int
abbrev wsJ100 : List Cond := u_ws RJ10 TJ10 0
theorem nmJ10 : ∀ a, a < 0 → ∀ b, b < 0 → a ≠ b → (TJ10 a).2.1 ≠ (TJ10 b).2.1 := by decide +kernel
theorem tyJ10_ok : ∀ k, k < 0 → parseFieldDescriptor (TJ10 k).2.2.1 = some (tyJ10 k) := by decide +kernel
def RJ7 : String := "java/util/Arrays"
def TJ7 : u_T := fun k => match k with
  | _ => ("", "", "", false)
def tyJ7 : Nat → FieldType := fun k => match k with
  | _ => .int
abbrev wsJ70 : List Cond := u_ws RJ7 TJ7 0
theorem nmJ7 : ∀ a, a < 0 → ∀ b, b < 0 → a ≠ b → (TJ7 a).2.1 ≠ (TJ7 b).2.1 := by decide +kernel
theorem tyJ7_ok : ∀ k, k < 0 → parseFieldDescriptor (TJ7 k).2.2.1 = some (tyJ7 k) := by decide +kernel
abbrev cJ7_fill_53178 : ByteArray := prog_10_method_103_code
def yJ7_fill_53178 : MethodName := ⟨RJ7, "fill", "([II)V"⟩
def RL : String := "BallastTrackLaw"
abbrev cL_law : ByteArray := code
def yL_law : MethodName := ⟨RL, "law", "([I)Z"⟩
def wsX1_init : List Cond := .code yX1_init cX1_init 1 none :: ([.methodLink RX1 3 objectInit, .instanceMethod objectInit, .code objectInit ⟨#[0xb1]⟩ 1 none, .fieldLink RX1 9 "BallastTrack$State" "sleepers" "I", .fieldLink RX1 15 "BallastTrack$State" "jobs" "I", .arrayClass .int, .fieldLink RX1 18 "BallastTrack$State" "numbers" "[I", .fieldLink RX1 22 "BallastTrack$State" "levels" "[I", .fieldLink RX1 25 "BallastTrack$State" "foulings" "[I", .fieldLink RX1 28 "BallastTrack$State" "settled" "[I", .fieldLink RX1 31 "BallastTrack$State" "lifted" "[I", .fieldLink RX1 34 "BallastTrack$State" "jobRows" "[I", .fieldLink RX1 37 "BallastTrack$State" "accounts" "[I", .methodLink RX1 43 arraycopyName, .native arraycopyName, .static arraycopyName, .initialized "java/lang/System"] ++ wsX10)
def wsX0_init_r1 : List Cond := [Cond.methodLink RX0 3 objectInit, Cond.instanceMethod objectInit, Cond.code objectInit ⟨#[0xb1]⟩ 1 none, Cond.classLink RX0 9 RX1, Cond.fieldLink RX0 11 "BallastTrack$History" "rows" "[LBallastTrack$State;", Cond.fieldLink RX0 17 "BallastTrack$History" "oldest" "I", Cond.fieldLink RX0 21 "BallastTrack$History" "size" "I", Cond.instantiable RX1 9, Cond.initialized RX1, Cond.methodLink RX0 24 yX1_init, Cond.instanceMethod yX1_init, Cond.code yX1_init cX1_init 1 none, Cond.methodLink RX1 3 objectInit, Cond.fieldLink RX1 9 "BallastTrack$State" "sleepers" "I", Cond.fieldLink RX1 15 "BallastTrack$State" "jobs" "I", Cond.arrayClass .int, Cond.fieldLink RX1 18 "BallastTrack$State" "numbers" "[I", Cond.fieldLink RX1 22 "BallastTrack$State" "levels" "[I", Cond.fieldLink RX1 25 "BallastTrack$State" "foulings" "[I", Cond.fieldLink RX1 28 "BallastTrack$State" "settled" "[I", Cond.fieldLink RX1 31 "BallastTrack$State" "lifted" "[I", Cond.fieldLink RX1 34 "BallastTrack$State" "jobRows" "[I", Cond.fieldLink RX1 37 "BallastTrack$State" "accounts" "[I", Cond.methodLink RX1 43 arraycopyName]
def wsX0_init_r2 : List Cond := [Cond.native arraycopyName, Cond.static arraycopyName, Cond.initialized "java/lang/System"]
def wsX0_init : List Cond := .code yX0_init cX0_init 2 none :: ((wsX0_init_r1 ++ wsX0_init_r2) ++ wsX00 ++ wsX10)
def wsX1_copyFrom : List Cond := .code yX1_copyFrom cX1_copyFrom 2 none :: ([.fieldLink RX1 9 "BallastTrack$State" "sleepers" "I", .fieldLink RX1 15 "BallastTrack$State" "jobs" "I", .fieldLink RX1 18 "BallastTrack$State" "numbers" "[I", .methodLink RX1 43 arraycopyName, .native arraycopyName, .static arraycopyName, .initialized "java/lang/System", .fieldLink RX1 22 "BallastTrack$State" "levels" "[I", .fieldLink RX1 25 "BallastTrack$State" "foulings" "[I", .fieldLink RX1 28 "BallastTrack$State" "settled" "[I", .fieldLink RX1 31 "BallastTrack$State" "lifted" "[I", .fieldLink RX1 34 "BallastTrack$State" "jobRows" "[I", .fieldLink RX1 37 "BallastTrack$State" "accounts" "[I"] ++ wsX10)
def wsX0_save : List Cond := .code yX0_save cX0_save 2 none :: ([.fieldLink RX0 11 "BallastTrack$History" "rows" "[LBallastTrack$State;", .fieldLink RX0 17 "BallastTrack$History" "oldest" "I", .fieldLink RX0 21 "BallastTrack$History" "size" "I", .methodLink RX0 25 yX1_copyFrom, .instanceMethod yX1_copyFrom, .selects RX1 yX1_copyFrom yX1_copyFrom, .initialized RX1, .code yX1_copyFrom cX1_copyFrom 2 none, .fieldLink RX1 9 "BallastTrack$State" "sleepers" "I", .fieldLink RX1 15 "BallastTrack$State" "jobs" "I", .fieldLink RX1 18 "BallastTrack$State" "numbers" "[I", .methodLink RX1 43 arraycopyName, .native arraycopyName, .static arraycopyName, .initialized "java/lang/System", .fieldLink RX1 22 "BallastTrack$State" "levels" "[I", .fieldLink RX1 25 "BallastTrack$State" "foulings" "[I", .fieldLink RX1 28 "BallastTrack$State" "settled" "[I", .fieldLink RX1 31 "BallastTrack$State" "lifted" "[I", .fieldLink RX1 34 "BallastTrack$State" "jobRows" "[I", .fieldLink RX1 37 "BallastTrack$State" "accounts" "[I"] ++ wsX00 ++ wsX10)
def wsX0_restore : List Cond := .code yX0_restore cX0_restore 2 none :: ([.fieldLink RX0 21 "BallastTrack$History" "size" "I", .fieldLink RX0 11 "BallastTrack$History" "rows" "[LBallastTrack$State;", .fieldLink RX0 17 "BallastTrack$History" "oldest" "I", .methodLink RX0 25 yX1_copyFrom, .instanceMethod yX1_copyFrom, .selects RX1 yX1_copyFrom yX1_copyFrom, .initialized RX1, .code yX1_copyFrom cX1_copyFrom 2 none, .fieldLink RX1 9 "BallastTrack$State" "sleepers" "I", .fieldLink RX1 15 "BallastTrack$State" "jobs" "I", .fieldLink RX1 18 "BallastTrack$State" "numbers" "[I", .methodLink RX1 43 arraycopyName, .native arraycopyName, .static arraycopyName, .initialized "java/lang/System", .fieldLink RX1 22 "BallastTrack$State" "levels" "[I", .fieldLink RX1 25 "BallastTrack$State" "foulings" "[I", .fieldLink RX1 28 "BallastTrack$State" "settled" "[I", .fieldLink RX1 31 "BallastTrack$State" "lifted" "[I", .fieldLink RX1 34 "BallastTrack$State" "jobRows" "[I", .fieldLink RX1 37 "BallastTrack$State" "accounts" "[I"] ++ wsX00 ++ wsX10)
def wsJ7_fill_53178 : List Cond := .code yJ7_fill_53178 cJ7_fill_53178 4 none :: ([])
def wsX1_makeNew : List Cond := .code yX1_makeNew cX1_makeNew 2 none :: ([.fieldLink RX1 9 "BallastTrack$State" "sleepers" "I", .fieldLink RX1 15 "BallastTrack$State" "jobs" "I", .fieldLink RX1 22 "BallastTrack$State" "levels" "[I", .fieldLink RX1 25 "BallastTrack$State" "foulings" "[I", .fieldLink RX1 28 "BallastTrack$State" "settled" "[I", .fieldLink RX1 31 "BallastTrack$State" "lifted" "[I", .fieldLink RX1 37 "BallastTrack$State" "accounts" "[I", .methodLink RX1 49 yJ7_fill_53178, .static yJ7_fill_53178, .initialized RJ7, .code yJ7_fill_53178 cJ7_fill_53178 4 none] ++ wsX10)
def wsX4_isWithin : List Cond := .code yX4_isWithin cX4_isWithin 3 (some .boolean) :: ([])
def wsX1_has : List Cond := .code yX1_has cX1_has 2 (some .boolean) :: ([.fieldLink RX1 9 "BallastTrack$State" "sleepers" "I", .static yX4_isWithin, .initialized RX4, .code yX4_isWithin cX4_isWithin 3 (some .boolean)] ++ wsX10)
def wsX1_putLevel : List Cond := .code yX1_putLevel cX1_putLevel 3 none :: ([.fieldLink RX1 37 "BallastTrack$State" "accounts" "[I", .fieldLink RX1 22 "BallastTrack$State" "levels" "[I"] ++ wsX10)
def wsX1_foul : List Cond := .code yX1_foul cX1_foul 3 none :: ([.fieldLink RX1 25 "BallastTrack$State" "foulings" "[I", .methodLink RX1 59 Lib.Math.min.name, .static Lib.Math.min.name, .initialized "java/lang/Math", .code Lib.Math.min.name Lib.Math.min.code 2 (some .int)] ++ wsX10)
def wsX1_settle : List Cond := .code yX1_settle cX1_settle 4 none :: ([.fieldLink RX1 22 "BallastTrack$State" "levels" "[I", .methodLink RX1 59 Lib.Math.min.name, .static Lib.Math.min.name, .initialized "java/lang/Math", .code Lib.Math.min.name Lib.Math.min.code 2 (some .int), .fieldLink RX1 28 "BallastTrack$State" "settled" "[I", .fieldLink RX1 37 "BallastTrack$State" "accounts" "[I"] ++ wsX10)
def wsX1_raise : List Cond := .code yX1_raise cX1_raise 3 none :: ([.fieldLink RX1 22 "BallastTrack$State" "levels" "[I", .fieldLink RX1 31 "BallastTrack$State" "lifted" "[I", .fieldLink RX1 37 "BallastTrack$State" "accounts" "[I", .methodLink RX1 65 yX1_foul, .instanceMethod yX1_foul, .selects RX1 yX1_foul yX1_foul, .initialized RX1, .code yX1_foul cX1_foul 3 none, .fieldLink RX1 25 "BallastTrack$State" "foulings" "[I", .methodLink RX1 59 Lib.Math.min.name, .static Lib.Math.min.name, .initialized "java/lang/Math", .code Lib.Math.min.name Lib.Math.min.code 2 (some .int)] ++ wsX10)
def wsX1_liftOf : List Cond := .code yX1_liftOf cX1_liftOf 4 (some .int) :: ([.fieldLink RX1 22 "BallastTrack$State" "levels" "[I", .fieldLink RX1 18 "BallastTrack$State" "numbers" "[I", .methodLink RX1 59 Lib.Math.min.name, .static Lib.Math.min.name, .initialized "java/lang/Math", .code Lib.Math.min.name Lib.Math.min.code 2 (some .int)] ++ wsX10)
def wsX1_jobValue : List Cond := .code yX1_jobValue cX1_jobValue 3 (some .int) :: ([.fieldLink RX1 34 "BallastTrack$State" "jobRows" "[I"] ++ wsX10)
def wsX1_appendJob : List Cond := .code yX1_appendJob cX1_appendJob 5 none :: ([.fieldLink RX1 15 "BallastTrack$State" "jobs" "I", .fieldLink RX1 34 "BallastTrack$State" "jobRows" "[I"] ++ wsX10)
def wsX1_removeJob : List Cond := .code yX1_removeJob cX1_removeJob 3 none :: ([.fieldLink RX1 34 "BallastTrack$State" "jobRows" "[I", .fieldLink RX1 15 "BallastTrack$State" "jobs" "I", .methodLink RX1 43 arraycopyName, .native arraycopyName, .static arraycopyName, .initialized "java/lang/System"] ++ wsX10)
def wsX4_minutesFor : List Cond := .code yX4_minutesFor cX4_minutesFor 1 (some .int) :: ([])
def wsX1_goOn : List Cond := .code yX1_goOn cX1_goOn 1 none :: ([.fieldLink RX1 34 "BallastTrack$State" "jobRows" "[I", .methodLink RX1 85 yX1_removeJob, .instanceMethod yX1_removeJob, .selects RX1 yX1_removeJob yX1_removeJob, .initialized RX1, .code yX1_removeJob cX1_removeJob 3 none, .fieldLink RX1 15 "BallastTrack$State" "jobs" "I", .methodLink RX1 43 arraycopyName, .native arraycopyName, .static arraycopyName, .initialized "java/lang/System"] ++ wsX10)
def wsX1_tamp_r1 : List Cond := [Cond.fieldLink RX1 15 "BallastTrack$State" "jobs" "I", Cond.fieldLink RX1 37 "BallastTrack$State" "accounts" "[I", Cond.methodLink RX1 69 yX1_jobValue, Cond.instanceMethod yX1_jobValue, Cond.selects RX1 yX1_jobValue yX1_jobValue, Cond.initialized RX1, Cond.code yX1_jobValue cX1_jobValue 3 (some .int), Cond.fieldLink RX1 34 "BallastTrack$State" "jobRows" "[I", Cond.methodLink RX1 72 yX1_liftOf, Cond.instanceMethod yX1_liftOf, Cond.selects RX1 yX1_liftOf yX1_liftOf, Cond.code yX1_liftOf cX1_liftOf 4 (some .int), Cond.fieldLink RX1 22 "BallastTrack$State" "levels" "[I", Cond.fieldLink RX1 18 "BallastTrack$State" "numbers" "[I", Cond.methodLink RX1 59 Lib.Math.min.name, Cond.static Lib.Math.min.name, Cond.initialized "java/lang/Math", Cond.code Lib.Math.min.name Lib.Math.min.code 2 (some .int), Cond.static yX4_minutesFor, Cond.initialized RX4, Cond.code yX4_minutesFor cX4_minutesFor 1 (some .int), Cond.methodLink RX1 79 yX1_raise, Cond.instanceMethod yX1_raise, Cond.selects RX1 yX1_raise yX1_raise]
def wsX1_tamp_r2 : List Cond := [Cond.code yX1_raise cX1_raise 3 none, Cond.fieldLink RX1 31 "BallastTrack$State" "lifted" "[I", Cond.methodLink RX1 65 yX1_foul, Cond.instanceMethod yX1_foul, Cond.selects RX1 yX1_foul yX1_foul, Cond.code yX1_foul cX1_foul 3 none, Cond.fieldLink RX1 25 "BallastTrack$State" "foulings" "[I", Cond.methodLink RX1 82 yX1_goOn, Cond.instanceMethod yX1_goOn, Cond.selects RX1 yX1_goOn yX1_goOn, Cond.code yX1_goOn cX1_goOn 1 none, Cond.methodLink RX1 85 yX1_removeJob, Cond.instanceMethod yX1_removeJob, Cond.selects RX1 yX1_removeJob yX1_removeJob, Cond.code yX1_removeJob cX1_removeJob 3 none, Cond.methodLink RX1 43 arraycopyName, Cond.native arraycopyName, Cond.static arraycopyName, Cond.initialized "java/lang/System"]
def wsX1_tamp : List Cond := .code yX1_tamp cX1_tamp 7 (some .int) :: ((wsX1_tamp_r1 ++ wsX1_tamp_r2) ++ wsX10)
def wsX2_init : List Cond := .code yX2_init cX2_init 2 none :: ([.methodLink RX2 3 objectInit, .instanceMethod objectInit, .code objectInit ⟨#[0xb1]⟩ 1 none, .arrayClass .int, .fieldLink RX2 9 "BallastTrack$Survey" "heights" "[I", .fieldLink RX2 15 "BallastTrack$Survey" "loads" "[I", .arrayClass .boolean, .fieldLink RX2 18 "BallastTrack$Survey" "hanging" "[Z", .fieldLink RX2 22 "BallastTrack$Survey" "hangingCount" "I", .fieldLink RX2 26 "BallastTrack$Survey" "worst" "I", .fieldLink RX2 29 "BallastTrack$Survey" "worstSize" "I", .fieldLink RX2 32 "BallastTrack$Survey" "order" "I", .fieldLink RX2 35 "BallastTrack$Survey" "track" "LBallastTrack$State;"] ++ wsX20)
def wsX2_findHeights : List Cond := .code yX2_findHeights cX2_findHeights 4 none :: ([.fieldLink RX2 35 "BallastTrack$Survey" "track" "LBallastTrack$State;", .fieldLink RX2 57 "BallastTrack$State" "numbers" "[I", .fieldLink RX2 60 "BallastTrack$State" "sleepers" "I", .fieldLink RX2 52 "BallastTrack$State" "levels" "[I", .methodLink RX2 72 Lib.Math.max.name, .static Lib.Math.max.name, .initialized "java/lang/Math", .code Lib.Math.max.name Lib.Math.max.code 2 (some .int), .fieldLink RX2 9 "BallastTrack$Survey" "heights" "[I"] ++ wsX20 ++ wsX10)
def wsX2_voidAt : List Cond := .code yX2_voidAt cX2_voidAt 2 (some .int) :: ([.fieldLink RX2 9 "BallastTrack$Survey" "heights" "[I", .fieldLink RX2 35 "BallastTrack$Survey" "track" "LBallastTrack$State;", .fieldLink RX2 52 "BallastTrack$State" "levels" "[I"] ++ wsX20 ++ wsX10)
def wsX2_findHanging : List Cond := .code yX2_findHanging cX2_findHanging 2 none :: ([.fieldLink RX2 22 "BallastTrack$Survey" "hangingCount" "I", .fieldLink RX2 35 "BallastTrack$Survey" "track" "LBallastTrack$State;", .fieldLink RX2 60 "BallastTrack$State" "sleepers" "I", .fieldLink RX2 18 "BallastTrack$Survey" "hanging" "[Z", .fieldLink RX2 57 "BallastTrack$State" "numbers" "[I", .methodLink RX2 80 yX2_voidAt, .instanceMethod yX2_voidAt, .selects RX2 yX2_voidAt yX2_voidAt, .initialized RX2, .code yX2_voidAt cX2_voidAt 2 (some .int), .fieldLink RX2 9 "BallastTrack$Survey" "heights" "[I", .fieldLink RX2 52 "BallastTrack$State" "levels" "[I"] ++ wsX20 ++ wsX10)
def wsX2_defectAt : List Cond := .code yX2_defectAt cX2_defectAt 3 (some .int) :: ([.fieldLink RX2 35 "BallastTrack$Survey" "track" "LBallastTrack$State;", .fieldLink RX2 57 "BallastTrack$State" "numbers" "[I", .fieldLink RX2 60 "BallastTrack$State" "sleepers" "I", .fieldLink RX2 9 "BallastTrack$Survey" "heights" "[I", .static yX4_isWithin, .initialized RX4, .code yX4_isWithin cX4_isWithin 3 (some .boolean)] ++ wsX20 ++ wsX10)
def wsX2_findWorst : List Cond := .code yX2_findWorst cX2_findWorst 3 none :: ([.fieldLink RX2 26 "BallastTrack$Survey" "worst" "I", .fieldLink RX2 29 "BallastTrack$Survey" "worstSize" "I", .fieldLink RX2 35 "BallastTrack$Survey" "track" "LBallastTrack$State;", .fieldLink RX2 60 "BallastTrack$State" "sleepers" "I", .methodLink RX2 67 Lib.Math.abs.name, .static Lib.Math.abs.name, .initialized "java/lang/Math", .code Lib.Math.abs.name Lib.Math.abs.code 1 (some .int), .methodLink RX2 83 yX2_defectAt, .instanceMethod yX2_defectAt, .selects RX2 yX2_defectAt yX2_defectAt, .initialized RX2, .code yX2_defectAt cX2_defectAt 3 (some .int), .fieldLink RX2 57 "BallastTrack$State" "numbers" "[I", .fieldLink RX2 9 "BallastTrack$Survey" "heights" "[I", .static yX4_isWithin, .initialized RX4, .code yX4_isWithin cX4_isWithin 3 (some .boolean)] ++ wsX20 ++ wsX10)
def wsX2_orderOf : List Cond := .code yX2_orderOf cX2_orderOf 2 (some .int) :: ([.fieldLink RX2 35 "BallastTrack$Survey" "track" "LBallastTrack$State;", .fieldLink RX2 57 "BallastTrack$State" "numbers" "[I"] ++ wsX20 ++ wsX10)
def wsX2_look_r1 : List Cond := [Cond.fieldLink RX2 29 "BallastTrack$Survey" "worstSize" "I", Cond.fieldLink RX2 32 "BallastTrack$Survey" "order" "I", Cond.methodLink RX2 39 yX2_findHeights, Cond.instanceMethod yX2_findHeights, Cond.selects RX2 yX2_findHeights yX2_findHeights, Cond.initialized RX2, Cond.code yX2_findHeights cX2_findHeights 4 none, Cond.fieldLink RX2 35 "BallastTrack$Survey" "track" "LBallastTrack$State;", Cond.fieldLink RX2 57 "BallastTrack$State" "numbers" "[I", Cond.fieldLink RX2 60 "BallastTrack$State" "sleepers" "I", Cond.fieldLink RX2 52 "BallastTrack$State" "levels" "[I", Cond.methodLink RX2 72 Lib.Math.max.name, Cond.static Lib.Math.max.name, Cond.initialized "java/lang/Math", Cond.code Lib.Math.max.name Lib.Math.max.code 2 (some .int), Cond.fieldLink RX2 9 "BallastTrack$Survey" "heights" "[I", Cond.methodLink RX2 42 yX2_findHanging, Cond.instanceMethod yX2_findHanging, Cond.selects RX2 yX2_findHanging yX2_findHanging, Cond.code yX2_findHanging cX2_findHanging 2 none, Cond.fieldLink RX2 22 "BallastTrack$Survey" "hangingCount" "I", Cond.fieldLink RX2 18 "BallastTrack$Survey" "hanging" "[Z", Cond.methodLink RX2 80 yX2_voidAt, Cond.instanceMethod yX2_voidAt]
def wsX2_look_r2 : List Cond := [Cond.selects RX2 yX2_voidAt yX2_voidAt, Cond.code yX2_voidAt cX2_voidAt 2 (some .int), Cond.methodLink RX2 45 yX2_findWorst, Cond.instanceMethod yX2_findWorst, Cond.selects RX2 yX2_findWorst yX2_findWorst, Cond.code yX2_findWorst cX2_findWorst 3 none, Cond.fieldLink RX2 26 "BallastTrack$Survey" "worst" "I", Cond.methodLink RX2 67 Lib.Math.abs.name, Cond.static Lib.Math.abs.name, Cond.code Lib.Math.abs.name Lib.Math.abs.code 1 (some .int), Cond.methodLink RX2 83 yX2_defectAt, Cond.instanceMethod yX2_defectAt, Cond.selects RX2 yX2_defectAt yX2_defectAt, Cond.code yX2_defectAt cX2_defectAt 3 (some .int), Cond.static yX4_isWithin, Cond.initialized RX4, Cond.code yX4_isWithin cX4_isWithin 3 (some .boolean), Cond.methodLink RX2 48 yX2_orderOf, Cond.instanceMethod yX2_orderOf, Cond.selects RX2 yX2_orderOf yX2_orderOf, Cond.code yX2_orderOf cX2_orderOf 2 (some .int)]
def wsX2_look : List Cond := .code yX2_look cX2_look 1 none :: ((wsX2_look_r1 ++ wsX2_look_r2) ++ wsX20 ++ wsX10)
def wsX2_greatestOfAll : List Cond := .code yX2_greatestOfAll cX2_greatestOfAll 5 (some .int) :: ([.fieldLink RX2 35 "BallastTrack$Survey" "track" "LBallastTrack$State;", .fieldLink RX2 52 "BallastTrack$State" "levels" "[I", .fieldLink RX2 60 "BallastTrack$State" "sleepers" "I", .fieldLink RX2 57 "BallastTrack$State" "numbers" "[I", .methodLink RX2 67 Lib.Math.abs.name, .static Lib.Math.abs.name, .initialized "java/lang/Math", .code Lib.Math.abs.name Lib.Math.abs.code 1 (some .int), .methodLink RX2 72 Lib.Math.max.name, .static Lib.Math.max.name, .code Lib.Math.max.name Lib.Math.max.code 2 (some .int)] ++ wsX20 ++ wsX10)
def wsX2_handOn : List Cond := .code yX2_handOn cX2_handOn 4 none :: ([.fieldLink RX2 15 "BallastTrack$Survey" "loads" "[I"] ++ wsX20)
def wsX2_findLoads : List Cond := .code yX2_findLoads cX2_findLoads 4 none :: ([.fieldLink RX2 35 "BallastTrack$Survey" "track" "LBallastTrack$State;", .fieldLink RX2 60 "BallastTrack$State" "sleepers" "I", .fieldLink RX2 18 "BallastTrack$Survey" "hanging" "[Z", .fieldLink RX2 15 "BallastTrack$Survey" "loads" "[I", .methodLink RX2 76 yX2_handOn, .instanceMethod yX2_handOn, .selects RX2 yX2_handOn yX2_handOn, .initialized RX2, .code yX2_handOn cX2_handOn 4 none] ++ wsX20 ++ wsX10)
def wsX3_init : List Cond := .code yX3_init cX3_init 1 none :: ([.methodLink RX3 3 objectInit, .instanceMethod objectInit, .code objectInit ⟨#[0xb1]⟩ 1 none, .arrayClass .int, .fieldLink RX3 9 "BallastTrack$Text" "characters" "[I", .fieldLink RX3 15 "BallastTrack$Text" "length" "I", .fieldLink RX3 19 "BallastTrack$Text" "errorPosition" "I", .fieldLink RX3 22 "BallastTrack$Text" "position" "I"] ++ wsX30)
def wsX3_skipSpaces : List Cond := .code yX3_skipSpaces cX3_skipSpaces 1 none :: ([.fieldLink RX3 22 "BallastTrack$Text" "position" "I", .fieldLink RX3 15 "BallastTrack$Text" "length" "I", .fieldLink RX3 9 "BallastTrack$Text" "characters" "[I"] ++ wsX30)
def wsX3_takes : List Cond := .code yX3_takes cX3_takes 2 (some .boolean) :: ([.fieldLink RX3 22 "BallastTrack$Text" "position" "I", .fieldLink RX3 15 "BallastTrack$Text" "length" "I", .fieldLink RX3 9 "BallastTrack$Text" "characters" "[I", .methodLink RX3 25 yX3_skipSpaces, .instanceMethod yX3_skipSpaces, .selects RX3 yX3_skipSpaces yX3_skipSpaces, .initialized RX3, .code yX3_skipSpaces cX3_skipSpaces 1 none] ++ wsX30)
def wsX3_fail : List Cond := .code yX3_fail cX3_fail 2 (some .int) :: ([.fieldLink RX3 19 "BallastTrack$Text" "errorPosition" "I"] ++ wsX30)
def wsX3_expects : List Cond := .code yX3_expects cX3_expects 2 (some .boolean) :: ([.fieldLink RX3 22 "BallastTrack$Text" "position" "I", .methodLink RX3 32 yX3_takes, .instanceMethod yX3_takes, .selects RX3 yX3_takes yX3_takes, .initialized RX3, .code yX3_takes cX3_takes 2 (some .boolean), .fieldLink RX3 15 "BallastTrack$Text" "length" "I", .fieldLink RX3 9 "BallastTrack$Text" "characters" "[I", .methodLink RX3 25 yX3_skipSpaces, .instanceMethod yX3_skipSpaces, .selects RX3 yX3_skipSpaces yX3_skipSpaces, .code yX3_skipSpaces cX3_skipSpaces 1 none, .methodLink RX3 63 yX3_fail, .instanceMethod yX3_fail, .selects RX3 yX3_fail yX3_fail, .code yX3_fail cX3_fail 2 (some .int), .fieldLink RX3 19 "BallastTrack$Text" "errorPosition" "I"] ++ wsX30)
def wsX3_isDigit : List Cond := .code yX3_isDigit cX3_isDigit 1 (some .boolean) :: ([.static yX4_isWithin, .initialized RX4, .code yX4_isWithin cX4_isWithin 3 (some .boolean)])
def wsX3_readNumber : List Cond := .code yX3_readNumber cX3_readNumber 6 (some .int) :: ([.fieldLink RX3 22 "BallastTrack$Text" "position" "I", .fieldLink RX3 15 "BallastTrack$Text" "length" "I", .fieldLink RX3 9 "BallastTrack$Text" "characters" "[I", .methodLink RX3 25 yX3_skipSpaces, .instanceMethod yX3_skipSpaces, .selects RX3 yX3_skipSpaces yX3_skipSpaces, .initialized RX3, .code yX3_skipSpaces cX3_skipSpaces 1 none, .methodLink RX3 59 yX3_isDigit, .static yX3_isDigit, .code yX3_isDigit cX3_isDigit 1 (some .boolean), .static yX4_isWithin, .initialized RX4, .code yX4_isWithin cX4_isWithin 3 (some .boolean), .methodLink RX3 63 yX3_fail, .instanceMethod yX3_fail, .selects RX3 yX3_fail yX3_fail, .code yX3_fail cX3_fail 2 (some .int), .fieldLink RX3 19 "BallastTrack$Text" "errorPosition" "I"] ++ wsX30)
def wsX3_put : List Cond := .code yX3_put cX3_put 6 none :: ([.fieldLink RX3 56 "BallastTrack$State" "foulings" "[I", .methodLink RX3 52 yX1_putLevel, .instanceMethod yX1_putLevel, .selects RX1 yX1_putLevel yX1_putLevel, .initialized RX1, .code yX1_putLevel cX1_putLevel 3 none, .fieldLink RX1 37 "BallastTrack$State" "accounts" "[I", .fieldLink RX1 22 "BallastTrack$State" "levels" "[I"] ++ wsX10)
def wsX3_readItem_r1 : List Cond := [Cond.fieldLink RX3 39 "BallastTrack$State" "sleepers" "I", Cond.methodLink RX3 32 yX3_takes, Cond.instanceMethod yX3_takes, Cond.selects RX3 yX3_takes yX3_takes, Cond.initialized RX3, Cond.code yX3_takes cX3_takes 2 (some .boolean), Cond.fieldLink RX3 22 "BallastTrack$Text" "position" "I", Cond.fieldLink RX3 15 "BallastTrack$Text" "length" "I", Cond.fieldLink RX3 9 "BallastTrack$Text" "characters" "[I", Cond.methodLink RX3 25 yX3_skipSpaces, Cond.instanceMethod yX3_skipSpaces, Cond.selects RX3 yX3_skipSpaces yX3_skipSpaces, Cond.code yX3_skipSpaces cX3_skipSpaces 1 none, Cond.methodLink RX3 36 yX3_expects, Cond.instanceMethod yX3_expects, Cond.selects RX3 yX3_expects yX3_expects, Cond.code yX3_expects cX3_expects 2 (some .boolean), Cond.methodLink RX3 63 yX3_fail, Cond.instanceMethod yX3_fail, Cond.selects RX3 yX3_fail yX3_fail, Cond.code yX3_fail cX3_fail 2 (some .int), Cond.fieldLink RX3 19 "BallastTrack$Text" "errorPosition" "I", Cond.methodLink RX3 44 yX3_readNumber, Cond.instanceMethod yX3_readNumber]
def wsX3_readItem_r2 : List Cond := [Cond.selects RX3 yX3_readNumber yX3_readNumber, Cond.code yX3_readNumber cX3_readNumber 6 (some .int), Cond.methodLink RX3 59 yX3_isDigit, Cond.static yX3_isDigit, Cond.code yX3_isDigit cX3_isDigit 1 (some .boolean), Cond.static yX4_isWithin, Cond.initialized RX4, Cond.code yX4_isWithin cX4_isWithin 3 (some .boolean), Cond.methodLink RX3 48 yX3_put, Cond.static yX3_put, Cond.code yX3_put cX3_put 6 none, Cond.fieldLink RX3 56 "BallastTrack$State" "foulings" "[I", Cond.methodLink RX3 52 yX1_putLevel, Cond.instanceMethod yX1_putLevel, Cond.selects RX1 yX1_putLevel yX1_putLevel, Cond.initialized RX1, Cond.code yX1_putLevel cX1_putLevel 3 none, Cond.fieldLink RX1 37 "BallastTrack$State" "accounts" "[I", Cond.fieldLink RX1 22 "BallastTrack$State" "levels" "[I"]
def wsX3_readItem : List Cond := .code yX3_readItem cX3_readItem 7 (some .boolean) :: ((wsX3_readItem_r1 ++ wsX3_readItem_r2) ++ wsX10 ++ wsX30)
def wsX3_readInto_r1 : List Cond := [Cond.fieldLink RX3 22 "BallastTrack$Text" "position" "I", Cond.fieldLink RX3 15 "BallastTrack$Text" "length" "I", Cond.methodLink RX3 25 yX3_skipSpaces, Cond.instanceMethod yX3_skipSpaces, Cond.selects RX3 yX3_skipSpaces yX3_skipSpaces, Cond.initialized RX3, Cond.code yX3_skipSpaces cX3_skipSpaces 1 none, Cond.fieldLink RX3 9 "BallastTrack$Text" "characters" "[I", Cond.methodLink RX3 28 yX3_readItem, Cond.instanceMethod yX3_readItem, Cond.selects RX3 yX3_readItem yX3_readItem, Cond.code yX3_readItem cX3_readItem 7 (some .boolean), Cond.fieldLink RX3 39 "BallastTrack$State" "sleepers" "I", Cond.methodLink RX3 32 yX3_takes, Cond.instanceMethod yX3_takes, Cond.selects RX3 yX3_takes yX3_takes, Cond.code yX3_takes cX3_takes 2 (some .boolean), Cond.methodLink RX3 36 yX3_expects, Cond.instanceMethod yX3_expects, Cond.selects RX3 yX3_expects yX3_expects, Cond.code yX3_expects cX3_expects 2 (some .boolean), Cond.methodLink RX3 63 yX3_fail, Cond.instanceMethod yX3_fail, Cond.selects RX3 yX3_fail yX3_fail]
def wsX3_readInto_r2 : List Cond := [Cond.code yX3_fail cX3_fail 2 (some .int), Cond.fieldLink RX3 19 "BallastTrack$Text" "errorPosition" "I", Cond.methodLink RX3 44 yX3_readNumber, Cond.instanceMethod yX3_readNumber, Cond.selects RX3 yX3_readNumber yX3_readNumber, Cond.code yX3_readNumber cX3_readNumber 6 (some .int), Cond.methodLink RX3 59 yX3_isDigit, Cond.static yX3_isDigit, Cond.code yX3_isDigit cX3_isDigit 1 (some .boolean), Cond.static yX4_isWithin, Cond.initialized RX4, Cond.code yX4_isWithin cX4_isWithin 3 (some .boolean), Cond.methodLink RX3 48 yX3_put, Cond.static yX3_put, Cond.code yX3_put cX3_put 6 none, Cond.fieldLink RX3 56 "BallastTrack$State" "foulings" "[I", Cond.methodLink RX3 52 yX1_putLevel, Cond.instanceMethod yX1_putLevel, Cond.selects RX1 yX1_putLevel yX1_putLevel, Cond.initialized RX1, Cond.code yX1_putLevel cX1_putLevel 3 none, Cond.fieldLink RX1 37 "BallastTrack$State" "accounts" "[I", Cond.fieldLink RX1 22 "BallastTrack$State" "levels" "[I"]
def wsX3_readInto : List Cond := .code yX3_readInto cX3_readInto 3 (some .int) :: ((wsX3_readInto_r1 ++ wsX3_readInto_r2) ++ wsX30 ++ wsX10)
def wsX4_init_r1 : List Cond := [Cond.methodLink RX4 1 objectInit, Cond.instanceMethod objectInit, Cond.code objectInit ⟨#[0xb1]⟩ 1 none, Cond.classLink RX4 7 RX1, Cond.instantiable RX1 9, Cond.initialized RX1, Cond.fieldLink RX4 10 "BallastTrack" "now" "LBallastTrack$State;", Cond.classLink RX4 16 RX2, Cond.instantiable RX2 8, Cond.initialized RX2, Cond.fieldLink RX4 21 "BallastTrack" "survey" "LBallastTrack$Survey;", Cond.fieldLink RX4 25 "BallastTrack" "trial" "LBallastTrack$State;", Cond.fieldLink RX4 28 "BallastTrack" "trialSurvey" "LBallastTrack$Survey;", Cond.classLink RX4 31 RX0, Cond.instantiable RX0 3, Cond.initialized RX0, Cond.fieldLink RX4 34 "BallastTrack" "history" "LBallastTrack$History;", Cond.classLink RX4 38 RX3, Cond.instantiable RX3 4, Cond.initialized RX3, Cond.fieldLink RX4 41 "BallastTrack" "text" "LBallastTrack$Text;", Cond.fieldLink RX4 45 "BallastTrack" "images" "[LBallastTrack$State;", Cond.arrayClass .boolean, Cond.fieldLink RX4 49 "BallastTrack" "kept" "[Z"]
def wsX4_init_r2 : List Cond := [Cond.methodLink RX4 9 yX1_init, Cond.instanceMethod yX1_init, Cond.code yX1_init cX1_init 1 none, Cond.methodLink RX1 3 objectInit, Cond.fieldLink RX1 9 "BallastTrack$State" "sleepers" "I", Cond.fieldLink RX1 15 "BallastTrack$State" "jobs" "I", Cond.arrayClass .int, Cond.fieldLink RX1 18 "BallastTrack$State" "numbers" "[I", Cond.fieldLink RX1 22 "BallastTrack$State" "levels" "[I", Cond.fieldLink RX1 25 "BallastTrack$State" "foulings" "[I", Cond.fieldLink RX1 28 "BallastTrack$State" "settled" "[I", Cond.fieldLink RX1 31 "BallastTrack$State" "lifted" "[I", Cond.fieldLink RX1 34 "BallastTrack$State" "jobRows" "[I", Cond.fieldLink RX1 37 "BallastTrack$State" "accounts" "[I", Cond.methodLink RX1 43 arraycopyName, Cond.native arraycopyName, Cond.static arraycopyName, Cond.initialized "java/lang/System", Cond.methodLink RX4 18 yX2_init, Cond.instanceMethod yX2_init, Cond.code yX2_init cX2_init 2 none, Cond.methodLink RX2 3 objectInit, Cond.fieldLink RX2 9 "BallastTrack$Survey" "heights" "[I", Cond.fieldLink RX2 15 "BallastTrack$Survey" "loads" "[I"]
def wsX4_init_r3 : List Cond := [Cond.fieldLink RX2 18 "BallastTrack$Survey" "hanging" "[Z", Cond.fieldLink RX2 22 "BallastTrack$Survey" "hangingCount" "I", Cond.fieldLink RX2 26 "BallastTrack$Survey" "worst" "I", Cond.fieldLink RX2 29 "BallastTrack$Survey" "worstSize" "I", Cond.fieldLink RX2 32 "BallastTrack$Survey" "order" "I", Cond.fieldLink RX2 35 "BallastTrack$Survey" "track" "LBallastTrack$State;", Cond.methodLink RX4 33 yX0_init, Cond.instanceMethod yX0_init, Cond.code yX0_init cX0_init 2 none, Cond.methodLink RX0 3 objectInit, Cond.classLink RX0 9 RX1, Cond.fieldLink RX0 11 "BallastTrack$History" "rows" "[LBallastTrack$State;", Cond.fieldLink RX0 17 "BallastTrack$History" "oldest" "I", Cond.fieldLink RX0 21 "BallastTrack$History" "size" "I", Cond.methodLink RX0 24 yX1_init, Cond.instanceMethod yX3_init, Cond.code yX3_init cX3_init 1 none, Cond.methodLink RX3 3 objectInit, Cond.fieldLink RX3 9 "BallastTrack$Text" "characters" "[I", Cond.fieldLink RX3 15 "BallastTrack$Text" "length" "I", Cond.fieldLink RX3 19 "BallastTrack$Text" "errorPosition" "I", Cond.fieldLink RX3 22 "BallastTrack$Text" "position" "I"]
def wsX4_init : List Cond := .code yX4_init cX4_init 2 none :: ((wsX4_init_r1 ++ (wsX4_init_r2 ++ wsX4_init_r3)) ++ wsX10 ++ wsX40 ++ wsX20 ++ wsX00 ++ wsX30)
def wsX4_begin_r1 : List Cond := [Cond.constant RX4 57 (-100001), Cond.fieldLink RX4 10 "BallastTrack" "now" "LBallastTrack$State;", Cond.fieldLink RX4 58 "BallastTrack$State" "sleepers" "I", Cond.fieldLink RX4 34 "BallastTrack" "history" "LBallastTrack$History;", Cond.methodLink RX4 53 yX4_isWithin, Cond.static yX4_isWithin, Cond.initialized RX4, Cond.code yX4_isWithin cX4_isWithin 3 (some .boolean), Cond.methodLink RX4 62 yX0_save, Cond.instanceMethod yX0_save, Cond.selects RX0 yX0_save yX0_save, Cond.initialized RX0, Cond.code yX0_save cX0_save 2 none, Cond.fieldLink RX0 11 "BallastTrack$History" "rows" "[LBallastTrack$State;", Cond.fieldLink RX0 17 "BallastTrack$History" "oldest" "I", Cond.fieldLink RX0 21 "BallastTrack$History" "size" "I", Cond.methodLink RX0 25 yX1_copyFrom, Cond.instanceMethod yX1_copyFrom, Cond.selects RX1 yX1_copyFrom yX1_copyFrom, Cond.initialized RX1, Cond.code yX1_copyFrom cX1_copyFrom 2 none, Cond.fieldLink RX1 9 "BallastTrack$State" "sleepers" "I", Cond.fieldLink RX1 15 "BallastTrack$State" "jobs" "I", Cond.fieldLink RX1 18 "BallastTrack$State" "numbers" "[I"]
def wsX4_begin_r2 : List Cond := [Cond.methodLink RX1 43 arraycopyName, Cond.native arraycopyName, Cond.static arraycopyName, Cond.initialized "java/lang/System", Cond.fieldLink RX1 22 "BallastTrack$State" "levels" "[I", Cond.fieldLink RX1 25 "BallastTrack$State" "foulings" "[I", Cond.fieldLink RX1 28 "BallastTrack$State" "settled" "[I", Cond.fieldLink RX1 31 "BallastTrack$State" "lifted" "[I", Cond.fieldLink RX1 34 "BallastTrack$State" "jobRows" "[I", Cond.fieldLink RX1 37 "BallastTrack$State" "accounts" "[I", Cond.methodLink RX4 65 yX1_makeNew, Cond.instanceMethod yX1_makeNew, Cond.selects RX1 yX1_makeNew yX1_makeNew, Cond.code yX1_makeNew cX1_makeNew 2 none, Cond.methodLink RX1 49 yJ7_fill_53178, Cond.static yJ7_fill_53178, Cond.initialized RJ7, Cond.code yJ7_fill_53178 cJ7_fill_53178 4 none]
def wsX4_begin : List Cond := .code yX4_begin cX4_begin 3 (some .int) :: ((wsX4_begin_r1 ++ wsX4_begin_r2) ++ wsX40 ++ wsX10 ++ wsX00)
def wsX4_leastNumber : List Cond := .code yX4_leastNumber cX4_leastNumber 2 (some .int) :: ([.fieldLink RX4 10 "BallastTrack" "now" "LBallastTrack$State;", .fieldLink RX4 76 "BallastTrack$State" "numbers" "[I", .fieldLink RX4 201 "BallastTrack" "LEAST_NUMBERS" "[I"] ++ wsX40 ++ wsX10)
def wsX4_greatestNumber : List Cond := .code yX4_greatestNumber cX4_greatestNumber 2 (some .int) :: ([.fieldLink RX4 10 "BallastTrack" "now" "LBallastTrack$State;", .fieldLink RX4 76 "BallastTrack$State" "numbers" "[I", .fieldLink RX4 204 "BallastTrack" "GREATEST_NUMBERS" "[I"] ++ wsX40 ++ wsX10)
def wsX4_setNumber_r1 : List Cond := [Cond.constant RX4 57 (-100001), Cond.fieldLink RX4 10 "BallastTrack" "now" "LBallastTrack$State;", Cond.fieldLink RX4 76 "BallastTrack$State" "numbers" "[I", Cond.fieldLink RX4 34 "BallastTrack" "history" "LBallastTrack$History;", Cond.methodLink RX4 53 yX4_isWithin, Cond.static yX4_isWithin, Cond.initialized RX4, Cond.code yX4_isWithin cX4_isWithin 3 (some .boolean), Cond.methodLink RX4 69 yX4_leastNumber, Cond.instanceMethod yX4_leastNumber, Cond.selects RX4 yX4_leastNumber yX4_leastNumber, Cond.code yX4_leastNumber cX4_leastNumber 2 (some .int), Cond.fieldLink RX4 201 "BallastTrack" "LEAST_NUMBERS" "[I", Cond.methodLink RX4 73 yX4_greatestNumber, Cond.instanceMethod yX4_greatestNumber, Cond.selects RX4 yX4_greatestNumber yX4_greatestNumber, Cond.code yX4_greatestNumber cX4_greatestNumber 2 (some .int), Cond.fieldLink RX4 204 "BallastTrack" "GREATEST_NUMBERS" "[I", Cond.methodLink RX4 62 yX0_save, Cond.instanceMethod yX0_save, Cond.selects RX0 yX0_save yX0_save, Cond.initialized RX0, Cond.code yX0_save cX0_save 2 none, Cond.fieldLink RX0 11 "BallastTrack$History" "rows" "[LBallastTrack$State;"]
def wsX4_setNumber_r2 : List Cond := [Cond.fieldLink RX0 17 "BallastTrack$History" "oldest" "I", Cond.fieldLink RX0 21 "BallastTrack$History" "size" "I", Cond.methodLink RX0 25 yX1_copyFrom, Cond.instanceMethod yX1_copyFrom, Cond.selects RX1 yX1_copyFrom yX1_copyFrom, Cond.initialized RX1, Cond.code yX1_copyFrom cX1_copyFrom 2 none, Cond.fieldLink RX1 9 "BallastTrack$State" "sleepers" "I", Cond.fieldLink RX1 15 "BallastTrack$State" "jobs" "I", Cond.fieldLink RX1 18 "BallastTrack$State" "numbers" "[I", Cond.methodLink RX1 43 arraycopyName, Cond.native arraycopyName, Cond.static arraycopyName, Cond.initialized "java/lang/System", Cond.fieldLink RX1 22 "BallastTrack$State" "levels" "[I", Cond.fieldLink RX1 25 "BallastTrack$State" "foulings" "[I", Cond.fieldLink RX1 28 "BallastTrack$State" "settled" "[I", Cond.fieldLink RX1 31 "BallastTrack$State" "lifted" "[I", Cond.fieldLink RX1 34 "BallastTrack$State" "jobRows" "[I", Cond.fieldLink RX1 37 "BallastTrack$State" "accounts" "[I"]
def wsX4_setNumber : List Cond := .code yX4_setNumber cX4_setNumber 4 (some .int) :: ((wsX4_setNumber_r1 ++ wsX4_setNumber_r2) ++ wsX40 ++ wsX10 ++ wsX00)
def wsX4_isLevel : List Cond := .code yX4_isLevel cX4_isLevel 1 (some .boolean) :: ([.methodLink RX4 53 yX4_isWithin, .static yX4_isWithin, .initialized RX4, .code yX4_isWithin cX4_isWithin 3 (some .boolean)])
def wsX4_setLevel_r1 : List Cond := [Cond.fieldLink RX4 10 "BallastTrack" "now" "LBallastTrack$State;", Cond.constant RX4 57 (-100001), Cond.fieldLink RX4 87 "BallastTrack$State" "levels" "[I", Cond.fieldLink RX4 34 "BallastTrack" "history" "LBallastTrack$History;", Cond.methodLink RX4 80 yX1_has, Cond.instanceMethod yX1_has, Cond.selects RX1 yX1_has yX1_has, Cond.initialized RX1, Cond.code yX1_has cX1_has 2 (some .boolean), Cond.fieldLink RX1 9 "BallastTrack$State" "sleepers" "I", Cond.static yX4_isWithin, Cond.initialized RX4, Cond.code yX4_isWithin cX4_isWithin 3 (some .boolean), Cond.methodLink RX4 84 yX4_isLevel, Cond.static yX4_isLevel, Cond.code yX4_isLevel cX4_isLevel 1 (some .boolean), Cond.methodLink RX4 53 yX4_isWithin, Cond.methodLink RX4 62 yX0_save, Cond.instanceMethod yX0_save, Cond.selects RX0 yX0_save yX0_save, Cond.initialized RX0, Cond.code yX0_save cX0_save 2 none, Cond.fieldLink RX0 11 "BallastTrack$History" "rows" "[LBallastTrack$State;", Cond.fieldLink RX0 17 "BallastTrack$History" "oldest" "I"]
def wsX4_setLevel_r2 : List Cond := [Cond.fieldLink RX0 21 "BallastTrack$History" "size" "I", Cond.methodLink RX0 25 yX1_copyFrom, Cond.instanceMethod yX1_copyFrom, Cond.selects RX1 yX1_copyFrom yX1_copyFrom, Cond.code yX1_copyFrom cX1_copyFrom 2 none, Cond.fieldLink RX1 15 "BallastTrack$State" "jobs" "I", Cond.fieldLink RX1 18 "BallastTrack$State" "numbers" "[I", Cond.methodLink RX1 43 arraycopyName, Cond.native arraycopyName, Cond.static arraycopyName, Cond.initialized "java/lang/System", Cond.fieldLink RX1 22 "BallastTrack$State" "levels" "[I", Cond.fieldLink RX1 25 "BallastTrack$State" "foulings" "[I", Cond.fieldLink RX1 28 "BallastTrack$State" "settled" "[I", Cond.fieldLink RX1 31 "BallastTrack$State" "lifted" "[I", Cond.fieldLink RX1 34 "BallastTrack$State" "jobRows" "[I", Cond.fieldLink RX1 37 "BallastTrack$State" "accounts" "[I", Cond.methodLink RX4 90 yX1_putLevel, Cond.instanceMethod yX1_putLevel, Cond.selects RX1 yX1_putLevel yX1_putLevel, Cond.code yX1_putLevel cX1_putLevel 3 none]
def wsX4_setLevel : List Cond := .code yX4_setLevel cX4_setLevel 4 (some .int) :: ((wsX4_setLevel_r1 ++ wsX4_setLevel_r2) ++ wsX40 ++ wsX10 ++ wsX00)
def wsX4_appendCharacter : List Cond := .code yX4_appendCharacter cX4_appendCharacter 2 (some .int) :: ([.constant RX4 57 (-100001), .fieldLink RX4 41 "BallastTrack" "text" "LBallastTrack$Text;", .fieldLink RX4 94 "BallastTrack$Text" "length" "I", .constant RX4 97 (-100003), .fieldLink RX4 98 "BallastTrack$Text" "characters" "[I", .methodLink RX4 53 yX4_isWithin, .static yX4_isWithin, .initialized RX4, .code yX4_isWithin cX4_isWithin 3 (some .boolean)] ++ wsX40 ++ wsX30)
def wsX4_clearText : List Cond := .code yX4_clearText cX4_clearText 2 (some .int) :: ([.fieldLink RX4 41 "BallastTrack" "text" "LBallastTrack$Text;", .fieldLink RX4 94 "BallastTrack$Text" "length" "I"] ++ wsX40 ++ wsX30)
def wsX4_load_r1 : List Cond := [Cond.fieldLink RX4 25 "BallastTrack" "trial" "LBallastTrack$State;", Cond.fieldLink RX4 10 "BallastTrack" "now" "LBallastTrack$State;", Cond.fieldLink RX4 41 "BallastTrack" "text" "LBallastTrack$Text;", Cond.constant RX4 108 (-200000), Cond.fieldLink RX4 109 "BallastTrack$Text" "errorPosition" "I", Cond.fieldLink RX4 34 "BallastTrack" "history" "LBallastTrack$History;", Cond.fieldLink RX4 94 "BallastTrack$Text" "length" "I", Cond.methodLink RX4 101 yX1_copyFrom, Cond.instanceMethod yX1_copyFrom, Cond.selects RX1 yX1_copyFrom yX1_copyFrom, Cond.initialized RX1, Cond.code yX1_copyFrom cX1_copyFrom 2 none, Cond.fieldLink RX1 9 "BallastTrack$State" "sleepers" "I", Cond.fieldLink RX1 15 "BallastTrack$State" "jobs" "I", Cond.fieldLink RX1 18 "BallastTrack$State" "numbers" "[I", Cond.methodLink RX1 43 arraycopyName, Cond.native arraycopyName, Cond.static arraycopyName, Cond.initialized "java/lang/System", Cond.fieldLink RX1 22 "BallastTrack$State" "levels" "[I", Cond.fieldLink RX1 25 "BallastTrack$State" "foulings" "[I", Cond.fieldLink RX1 28 "BallastTrack$State" "settled" "[I", Cond.fieldLink RX1 31 "BallastTrack$State" "lifted" "[I", Cond.fieldLink RX1 34 "BallastTrack$State" "jobRows" "[I"]
def wsX4_load_r2 : List Cond := [Cond.fieldLink RX1 37 "BallastTrack$State" "accounts" "[I", Cond.methodLink RX4 104 yX3_readInto, Cond.instanceMethod yX3_readInto, Cond.selects RX3 yX3_readInto yX3_readInto, Cond.initialized RX3, Cond.code yX3_readInto cX3_readInto 3 (some .int), Cond.fieldLink RX3 22 "BallastTrack$Text" "position" "I", Cond.fieldLink RX3 15 "BallastTrack$Text" "length" "I", Cond.methodLink RX3 25 yX3_skipSpaces, Cond.instanceMethod yX3_skipSpaces, Cond.selects RX3 yX3_skipSpaces yX3_skipSpaces, Cond.code yX3_skipSpaces cX3_skipSpaces 1 none, Cond.fieldLink RX3 9 "BallastTrack$Text" "characters" "[I", Cond.methodLink RX3 28 yX3_readItem, Cond.instanceMethod yX3_readItem, Cond.selects RX3 yX3_readItem yX3_readItem, Cond.code yX3_readItem cX3_readItem 7 (some .boolean), Cond.fieldLink RX3 39 "BallastTrack$State" "sleepers" "I", Cond.methodLink RX3 32 yX3_takes, Cond.instanceMethod yX3_takes, Cond.selects RX3 yX3_takes yX3_takes, Cond.code yX3_takes cX3_takes 2 (some .boolean), Cond.methodLink RX3 36 yX3_expects, Cond.instanceMethod yX3_expects]
def wsX4_load_r3 : List Cond := [Cond.selects RX3 yX3_expects yX3_expects, Cond.code yX3_expects cX3_expects 2 (some .boolean), Cond.methodLink RX3 63 yX3_fail, Cond.instanceMethod yX3_fail, Cond.selects RX3 yX3_fail yX3_fail, Cond.code yX3_fail cX3_fail 2 (some .int), Cond.fieldLink RX3 19 "BallastTrack$Text" "errorPosition" "I", Cond.methodLink RX3 44 yX3_readNumber, Cond.instanceMethod yX3_readNumber, Cond.selects RX3 yX3_readNumber yX3_readNumber, Cond.code yX3_readNumber cX3_readNumber 6 (some .int), Cond.methodLink RX3 59 yX3_isDigit, Cond.static yX3_isDigit, Cond.code yX3_isDigit cX3_isDigit 1 (some .boolean), Cond.static yX4_isWithin, Cond.initialized RX4, Cond.code yX4_isWithin cX4_isWithin 3 (some .boolean), Cond.methodLink RX3 48 yX3_put, Cond.static yX3_put, Cond.code yX3_put cX3_put 6 none, Cond.fieldLink RX3 56 "BallastTrack$State" "foulings" "[I", Cond.methodLink RX3 52 yX1_putLevel, Cond.instanceMethod yX1_putLevel, Cond.selects RX1 yX1_putLevel yX1_putLevel]
def wsX4_load_r4 : List Cond := [Cond.code yX1_putLevel cX1_putLevel 3 none, Cond.methodLink RX4 62 yX0_save, Cond.instanceMethod yX0_save, Cond.selects RX0 yX0_save yX0_save, Cond.initialized RX0, Cond.code yX0_save cX0_save 2 none, Cond.fieldLink RX0 11 "BallastTrack$History" "rows" "[LBallastTrack$State;", Cond.fieldLink RX0 17 "BallastTrack$History" "oldest" "I", Cond.fieldLink RX0 21 "BallastTrack$History" "size" "I", Cond.methodLink RX0 25 yX1_copyFrom]
def wsX4_load : List Cond := .code yX4_load cX4_load 2 (some .int) :: ((wsX4_load_r1 ++ (wsX4_load_r2 ++ (wsX4_load_r3 ++ wsX4_load_r4))) ++ wsX40 ++ wsX30 ++ wsX10 ++ wsX00)
def wsX4_isStretch : List Cond := .code yX4_isStretch cX4_isStretch 3 (some .boolean) :: ([.fieldLink RX4 10 "BallastTrack" "now" "LBallastTrack$State;", .methodLink RX4 80 yX1_has, .instanceMethod yX1_has, .selects RX1 yX1_has yX1_has, .initialized RX1, .code yX1_has cX1_has 2 (some .boolean), .fieldLink RX1 9 "BallastTrack$State" "sleepers" "I", .static yX4_isWithin, .initialized RX4, .code yX4_isWithin cX4_isWithin 3 (some .boolean)] ++ wsX40 ++ wsX10)
def wsX4_renew_r1 : List Cond := [Cond.constant RX4 57 (-100001), Cond.fieldLink RX4 34 "BallastTrack" "history" "LBallastTrack$History;", Cond.fieldLink RX4 10 "BallastTrack" "now" "LBallastTrack$State;", Cond.fieldLink RX4 116 "BallastTrack$State" "foulings" "[I", Cond.methodLink RX4 112 yX4_isStretch, Cond.instanceMethod yX4_isStretch, Cond.selects RX4 yX4_isStretch yX4_isStretch, Cond.initialized RX4, Cond.code yX4_isStretch cX4_isStretch 3 (some .boolean), Cond.methodLink RX4 80 yX1_has, Cond.instanceMethod yX1_has, Cond.selects RX1 yX1_has yX1_has, Cond.initialized RX1, Cond.code yX1_has cX1_has 2 (some .boolean), Cond.fieldLink RX1 9 "BallastTrack$State" "sleepers" "I", Cond.static yX4_isWithin, Cond.code yX4_isWithin cX4_isWithin 3 (some .boolean), Cond.methodLink RX4 62 yX0_save, Cond.instanceMethod yX0_save, Cond.selects RX0 yX0_save yX0_save, Cond.initialized RX0, Cond.code yX0_save cX0_save 2 none, Cond.fieldLink RX0 11 "BallastTrack$History" "rows" "[LBallastTrack$State;", Cond.fieldLink RX0 17 "BallastTrack$History" "oldest" "I"]
def wsX4_renew_r2 : List Cond := [Cond.fieldLink RX0 21 "BallastTrack$History" "size" "I", Cond.methodLink RX0 25 yX1_copyFrom, Cond.instanceMethod yX1_copyFrom, Cond.selects RX1 yX1_copyFrom yX1_copyFrom, Cond.code yX1_copyFrom cX1_copyFrom 2 none, Cond.fieldLink RX1 15 "BallastTrack$State" "jobs" "I", Cond.fieldLink RX1 18 "BallastTrack$State" "numbers" "[I", Cond.methodLink RX1 43 arraycopyName, Cond.native arraycopyName, Cond.static arraycopyName, Cond.initialized "java/lang/System", Cond.fieldLink RX1 22 "BallastTrack$State" "levels" "[I", Cond.fieldLink RX1 25 "BallastTrack$State" "foulings" "[I", Cond.fieldLink RX1 28 "BallastTrack$State" "settled" "[I", Cond.fieldLink RX1 31 "BallastTrack$State" "lifted" "[I", Cond.fieldLink RX1 34 "BallastTrack$State" "jobRows" "[I", Cond.fieldLink RX1 37 "BallastTrack$State" "accounts" "[I"]
def wsX4_renew : List Cond := .code yX4_renew cX4_renew 5 (some .int) :: ((wsX4_renew_r1 ++ wsX4_renew_r2) ++ wsX40 ++ wsX10 ++ wsX00)
def wsX4_addJob_r1 : List Cond := [Cond.constant RX4 57 (-100001), Cond.fieldLink RX4 10 "BallastTrack" "now" "LBallastTrack$State;", Cond.fieldLink RX4 119 "BallastTrack$State" "jobs" "I", Cond.constant RX4 97 (-100003), Cond.fieldLink RX4 34 "BallastTrack" "history" "LBallastTrack$History;", Cond.methodLink RX4 112 yX4_isStretch, Cond.instanceMethod yX4_isStretch, Cond.selects RX4 yX4_isStretch yX4_isStretch, Cond.initialized RX4, Cond.code yX4_isStretch cX4_isStretch 3 (some .boolean), Cond.methodLink RX4 80 yX1_has, Cond.instanceMethod yX1_has, Cond.selects RX1 yX1_has yX1_has, Cond.initialized RX1, Cond.code yX1_has cX1_has 2 (some .boolean), Cond.fieldLink RX1 9 "BallastTrack$State" "sleepers" "I", Cond.static yX4_isWithin, Cond.code yX4_isWithin cX4_isWithin 3 (some .boolean), Cond.methodLink RX4 84 yX4_isLevel, Cond.static yX4_isLevel, Cond.code yX4_isLevel cX4_isLevel 1 (some .boolean), Cond.methodLink RX4 53 yX4_isWithin, Cond.methodLink RX4 62 yX0_save, Cond.instanceMethod yX0_save]
def wsX4_addJob_r2 : List Cond := [Cond.selects RX0 yX0_save yX0_save, Cond.initialized RX0, Cond.code yX0_save cX0_save 2 none, Cond.fieldLink RX0 11 "BallastTrack$History" "rows" "[LBallastTrack$State;", Cond.fieldLink RX0 17 "BallastTrack$History" "oldest" "I", Cond.fieldLink RX0 21 "BallastTrack$History" "size" "I", Cond.methodLink RX0 25 yX1_copyFrom, Cond.instanceMethod yX1_copyFrom, Cond.selects RX1 yX1_copyFrom yX1_copyFrom, Cond.code yX1_copyFrom cX1_copyFrom 2 none, Cond.fieldLink RX1 15 "BallastTrack$State" "jobs" "I", Cond.fieldLink RX1 18 "BallastTrack$State" "numbers" "[I", Cond.methodLink RX1 43 arraycopyName, Cond.native arraycopyName, Cond.static arraycopyName, Cond.initialized "java/lang/System", Cond.fieldLink RX1 22 "BallastTrack$State" "levels" "[I", Cond.fieldLink RX1 25 "BallastTrack$State" "foulings" "[I", Cond.fieldLink RX1 28 "BallastTrack$State" "settled" "[I", Cond.fieldLink RX1 31 "BallastTrack$State" "lifted" "[I", Cond.fieldLink RX1 34 "BallastTrack$State" "jobRows" "[I", Cond.fieldLink RX1 37 "BallastTrack$State" "accounts" "[I", Cond.methodLink RX4 122 yX1_appendJob, Cond.instanceMethod yX1_appendJob]
def wsX4_addJob_r3 : List Cond := [Cond.selects RX1 yX1_appendJob yX1_appendJob, Cond.code yX1_appendJob cX1_appendJob 5 none]
def wsX4_addJob : List Cond := .code yX4_addJob cX4_addJob 4 (some .int) :: ((wsX4_addJob_r1 ++ (wsX4_addJob_r2 ++ wsX4_addJob_r3)) ++ wsX40 ++ wsX10 ++ wsX00)
def wsX4_cancelJobs_r1 : List Cond := [Cond.fieldLink RX4 10 "BallastTrack" "now" "LBallastTrack$State;", Cond.constant RX4 57 (-100001), Cond.fieldLink RX4 34 "BallastTrack" "history" "LBallastTrack$History;", Cond.fieldLink RX4 119 "BallastTrack$State" "jobs" "I", Cond.methodLink RX4 80 yX1_has, Cond.instanceMethod yX1_has, Cond.selects RX1 yX1_has yX1_has, Cond.initialized RX1, Cond.code yX1_has cX1_has 2 (some .boolean), Cond.fieldLink RX1 9 "BallastTrack$State" "sleepers" "I", Cond.static yX4_isWithin, Cond.initialized RX4, Cond.code yX4_isWithin cX4_isWithin 3 (some .boolean), Cond.methodLink RX4 62 yX0_save, Cond.instanceMethod yX0_save, Cond.selects RX0 yX0_save yX0_save, Cond.initialized RX0, Cond.code yX0_save cX0_save 2 none, Cond.fieldLink RX0 11 "BallastTrack$History" "rows" "[LBallastTrack$State;", Cond.fieldLink RX0 17 "BallastTrack$History" "oldest" "I", Cond.fieldLink RX0 21 "BallastTrack$History" "size" "I", Cond.methodLink RX0 25 yX1_copyFrom, Cond.instanceMethod yX1_copyFrom, Cond.selects RX1 yX1_copyFrom yX1_copyFrom]
def wsX4_cancelJobs_r2 : List Cond := [Cond.code yX1_copyFrom cX1_copyFrom 2 none, Cond.fieldLink RX1 15 "BallastTrack$State" "jobs" "I", Cond.fieldLink RX1 18 "BallastTrack$State" "numbers" "[I", Cond.methodLink RX1 43 arraycopyName, Cond.native arraycopyName, Cond.static arraycopyName, Cond.initialized "java/lang/System", Cond.fieldLink RX1 22 "BallastTrack$State" "levels" "[I", Cond.fieldLink RX1 25 "BallastTrack$State" "foulings" "[I", Cond.fieldLink RX1 28 "BallastTrack$State" "settled" "[I", Cond.fieldLink RX1 31 "BallastTrack$State" "lifted" "[I", Cond.fieldLink RX1 34 "BallastTrack$State" "jobRows" "[I", Cond.fieldLink RX1 37 "BallastTrack$State" "accounts" "[I", Cond.methodLink RX4 126 yX1_jobValue, Cond.instanceMethod yX1_jobValue, Cond.selects RX1 yX1_jobValue yX1_jobValue, Cond.code yX1_jobValue cX1_jobValue 3 (some .int), Cond.methodLink RX4 53 yX4_isWithin, Cond.methodLink RX4 130 yX1_removeJob, Cond.instanceMethod yX1_removeJob, Cond.selects RX1 yX1_removeJob yX1_removeJob, Cond.code yX1_removeJob cX1_removeJob 3 none]
def wsX4_cancelJobs : List Cond := .code yX4_cancelJobs cX4_cancelJobs 4 (some .int) :: ((wsX4_cancelJobs_r1 ++ wsX4_cancelJobs_r2) ++ wsX40 ++ wsX10 ++ wsX00)
def wsX4_work_r1 : List Cond := [Cond.constant RX4 57 (-100001), Cond.fieldLink RX4 10 "BallastTrack" "now" "LBallastTrack$State;", Cond.fieldLink RX4 119 "BallastTrack$State" "jobs" "I", Cond.constant RX4 133 (-100002), Cond.fieldLink RX4 34 "BallastTrack" "history" "LBallastTrack$History;", Cond.methodLink RX4 53 yX4_isWithin, Cond.static yX4_isWithin, Cond.initialized RX4, Cond.code yX4_isWithin cX4_isWithin 3 (some .boolean), Cond.methodLink RX4 62 yX0_save, Cond.instanceMethod yX0_save, Cond.selects RX0 yX0_save yX0_save, Cond.initialized RX0, Cond.code yX0_save cX0_save 2 none, Cond.fieldLink RX0 11 "BallastTrack$History" "rows" "[LBallastTrack$State;", Cond.fieldLink RX0 17 "BallastTrack$History" "oldest" "I", Cond.fieldLink RX0 21 "BallastTrack$History" "size" "I", Cond.methodLink RX0 25 yX1_copyFrom, Cond.instanceMethod yX1_copyFrom, Cond.selects RX1 yX1_copyFrom yX1_copyFrom, Cond.initialized RX1, Cond.code yX1_copyFrom cX1_copyFrom 2 none, Cond.fieldLink RX1 9 "BallastTrack$State" "sleepers" "I", Cond.fieldLink RX1 15 "BallastTrack$State" "jobs" "I"]
def wsX4_work_r2 : List Cond := [Cond.fieldLink RX1 18 "BallastTrack$State" "numbers" "[I", Cond.methodLink RX1 43 arraycopyName, Cond.native arraycopyName, Cond.static arraycopyName, Cond.initialized "java/lang/System", Cond.fieldLink RX1 22 "BallastTrack$State" "levels" "[I", Cond.fieldLink RX1 25 "BallastTrack$State" "foulings" "[I", Cond.fieldLink RX1 28 "BallastTrack$State" "settled" "[I", Cond.fieldLink RX1 31 "BallastTrack$State" "lifted" "[I", Cond.fieldLink RX1 34 "BallastTrack$State" "jobRows" "[I", Cond.fieldLink RX1 37 "BallastTrack$State" "accounts" "[I", Cond.methodLink RX4 134 yX1_tamp, Cond.instanceMethod yX1_tamp, Cond.selects RX1 yX1_tamp yX1_tamp, Cond.code yX1_tamp cX1_tamp 7 (some .int), Cond.methodLink RX1 69 yX1_jobValue, Cond.instanceMethod yX1_jobValue, Cond.selects RX1 yX1_jobValue yX1_jobValue, Cond.code yX1_jobValue cX1_jobValue 3 (some .int), Cond.methodLink RX1 72 yX1_liftOf, Cond.instanceMethod yX1_liftOf, Cond.selects RX1 yX1_liftOf yX1_liftOf, Cond.code yX1_liftOf cX1_liftOf 4 (some .int), Cond.methodLink RX1 59 Lib.Math.min.name]
def wsX4_work_r3 : List Cond := [Cond.static Lib.Math.min.name, Cond.initialized "java/lang/Math", Cond.code Lib.Math.min.name Lib.Math.min.code 2 (some .int), Cond.static yX4_minutesFor, Cond.code yX4_minutesFor cX4_minutesFor 1 (some .int), Cond.methodLink RX1 79 yX1_raise, Cond.instanceMethod yX1_raise, Cond.selects RX1 yX1_raise yX1_raise, Cond.code yX1_raise cX1_raise 3 none, Cond.methodLink RX1 65 yX1_foul, Cond.instanceMethod yX1_foul, Cond.selects RX1 yX1_foul yX1_foul, Cond.code yX1_foul cX1_foul 3 none, Cond.methodLink RX1 82 yX1_goOn, Cond.instanceMethod yX1_goOn, Cond.selects RX1 yX1_goOn yX1_goOn, Cond.code yX1_goOn cX1_goOn 1 none, Cond.methodLink RX1 85 yX1_removeJob, Cond.instanceMethod yX1_removeJob, Cond.selects RX1 yX1_removeJob yX1_removeJob, Cond.code yX1_removeJob cX1_removeJob 3 none]
def wsX4_work : List Cond := .code yX4_work cX4_work 2 (some .int) :: ((wsX4_work_r1 ++ (wsX4_work_r2 ++ wsX4_work_r3)) ++ wsX40 ++ wsX10 ++ wsX00)
def wsX4_isTrain : List Cond := .code yX4_isTrain cX4_isTrain 2 (some .boolean) :: ([.methodLink RX4 53 yX4_isWithin, .static yX4_isWithin, .initialized RX4, .code yX4_isWithin cX4_isWithin 3 (some .boolean)])
def wsX4_shareOf : List Cond := .code yX4_shareOf cX4_shareOf 1 (some .int) :: ([])
def wsX4_settlement : List Cond := .code yX4_settlement cX4_settlement 5 (some .int) :: ([.fieldLink RX4 216 "BallastTrack$Survey" "loads" "[I", .fieldLink RX4 234 "BallastTrack$Survey" "track" "LBallastTrack$State;", .fieldLink RX4 116 "BallastTrack$State" "foulings" "[I", .fieldLink RX4 143 "BallastTrack$Survey" "order" "I", .constantLong RX4 253 (4000000), .methodLink RX4 250 yX4_shareOf, .static yX4_shareOf, .initialized RX4, .code yX4_shareOf cX4_shareOf 1 (some .int)] ++ wsX20 ++ wsX10)
def wsX4_minutesLostBy : List Cond := .code yX4_minutesLostBy cX4_minutesLostBy 1 (some .int) :: ([])
def wsX4_passTrain_r1 : List Cond := [Cond.fieldLink RX4 234 "BallastTrack$Survey" "track" "LBallastTrack$State;", Cond.fieldLink RX4 58 "BallastTrack$State" "sleepers" "I", Cond.fieldLink RX4 210 "BallastTrack$Survey" "hanging" "[Z", Cond.fieldLink RX4 150 "BallastTrack$State" "accounts" "[I", Cond.fieldLink RX4 143 "BallastTrack$Survey" "order" "I", Cond.methodLink RX4 213 yX2_findLoads, Cond.instanceMethod yX2_findLoads, Cond.selects RX2 yX2_findLoads yX2_findLoads, Cond.initialized RX2, Cond.code yX2_findLoads cX2_findLoads 4 none, Cond.fieldLink RX2 35 "BallastTrack$Survey" "track" "LBallastTrack$State;", Cond.fieldLink RX2 60 "BallastTrack$State" "sleepers" "I", Cond.fieldLink RX2 18 "BallastTrack$Survey" "hanging" "[Z", Cond.fieldLink RX2 15 "BallastTrack$Survey" "loads" "[I", Cond.methodLink RX2 76 yX2_handOn, Cond.instanceMethod yX2_handOn, Cond.selects RX2 yX2_handOn yX2_handOn, Cond.code yX2_handOn cX2_handOn 4 none, Cond.methodLink RX4 237 yX1_foul, Cond.instanceMethod yX1_foul, Cond.selects RX1 yX1_foul yX1_foul, Cond.initialized RX1, Cond.code yX1_foul cX1_foul 3 none, Cond.fieldLink RX1 25 "BallastTrack$State" "foulings" "[I"]
def wsX4_passTrain_r2 : List Cond := [Cond.methodLink RX1 59 Lib.Math.min.name, Cond.static Lib.Math.min.name, Cond.initialized "java/lang/Math", Cond.code Lib.Math.min.name Lib.Math.min.code 2 (some .int), Cond.methodLink RX4 240 yX4_settlement, Cond.static yX4_settlement, Cond.initialized RX4, Cond.code yX4_settlement cX4_settlement 5 (some .int), Cond.fieldLink RX4 216 "BallastTrack$Survey" "loads" "[I", Cond.fieldLink RX4 116 "BallastTrack$State" "foulings" "[I", Cond.constantLong RX4 253 (4000000), Cond.methodLink RX4 250 yX4_shareOf, Cond.static yX4_shareOf, Cond.code yX4_shareOf cX4_shareOf 1 (some .int), Cond.methodLink RX4 244 yX1_settle, Cond.instanceMethod yX1_settle, Cond.selects RX1 yX1_settle yX1_settle, Cond.code yX1_settle cX1_settle 4 none, Cond.fieldLink RX1 22 "BallastTrack$State" "levels" "[I", Cond.fieldLink RX1 28 "BallastTrack$State" "settled" "[I", Cond.fieldLink RX1 37 "BallastTrack$State" "accounts" "[I", Cond.methodLink RX4 247 yX4_minutesLostBy, Cond.static yX4_minutesLostBy, Cond.code yX4_minutesLostBy cX4_minutesLostBy 1 (some .int)]
def wsX4_passTrain_r3 : List Cond := [Cond.methodLink RX4 140 yX2_look, Cond.instanceMethod yX2_look, Cond.selects RX2 yX2_look yX2_look, Cond.code yX2_look cX2_look 1 none, Cond.fieldLink RX2 29 "BallastTrack$Survey" "worstSize" "I", Cond.fieldLink RX2 32 "BallastTrack$Survey" "order" "I", Cond.methodLink RX2 39 yX2_findHeights, Cond.instanceMethod yX2_findHeights, Cond.selects RX2 yX2_findHeights yX2_findHeights, Cond.code yX2_findHeights cX2_findHeights 4 none, Cond.fieldLink RX2 57 "BallastTrack$State" "numbers" "[I", Cond.fieldLink RX2 52 "BallastTrack$State" "levels" "[I", Cond.methodLink RX2 72 Lib.Math.max.name, Cond.static Lib.Math.max.name, Cond.code Lib.Math.max.name Lib.Math.max.code 2 (some .int), Cond.fieldLink RX2 9 "BallastTrack$Survey" "heights" "[I", Cond.methodLink RX2 42 yX2_findHanging, Cond.instanceMethod yX2_findHanging, Cond.selects RX2 yX2_findHanging yX2_findHanging, Cond.code yX2_findHanging cX2_findHanging 2 none, Cond.fieldLink RX2 22 "BallastTrack$Survey" "hangingCount" "I", Cond.methodLink RX2 80 yX2_voidAt, Cond.instanceMethod yX2_voidAt, Cond.selects RX2 yX2_voidAt yX2_voidAt]
def wsX4_passTrain_r4 : List Cond := [Cond.code yX2_voidAt cX2_voidAt 2 (some .int), Cond.methodLink RX2 45 yX2_findWorst, Cond.instanceMethod yX2_findWorst, Cond.selects RX2 yX2_findWorst yX2_findWorst, Cond.code yX2_findWorst cX2_findWorst 3 none, Cond.fieldLink RX2 26 "BallastTrack$Survey" "worst" "I", Cond.methodLink RX2 67 Lib.Math.abs.name, Cond.static Lib.Math.abs.name, Cond.code Lib.Math.abs.name Lib.Math.abs.code 1 (some .int), Cond.methodLink RX2 83 yX2_defectAt, Cond.instanceMethod yX2_defectAt, Cond.selects RX2 yX2_defectAt yX2_defectAt, Cond.code yX2_defectAt cX2_defectAt 3 (some .int), Cond.static yX4_isWithin, Cond.code yX4_isWithin cX4_isWithin 3 (some .boolean), Cond.methodLink RX2 48 yX2_orderOf, Cond.instanceMethod yX2_orderOf, Cond.selects RX2 yX2_orderOf yX2_orderOf, Cond.code yX2_orderOf cX2_orderOf 2 (some .int)]
def wsX4_passTrain : List Cond := .code yX4_passTrain cX4_passTrain 5 none :: ((wsX4_passTrain_r1 ++ (wsX4_passTrain_r2 ++ (wsX4_passTrain_r3 ++ wsX4_passTrain_r4))) ++ wsX20 ++ wsX10)
def wsX4_trains_r1 : List Cond := [Cond.constant RX4 57 (-100001), Cond.fieldLink RX4 21 "BallastTrack" "survey" "LBallastTrack$Survey;", Cond.fieldLink RX4 143 "BallastTrack$Survey" "order" "I", Cond.constant RX4 133 (-100002), Cond.fieldLink RX4 34 "BallastTrack" "history" "LBallastTrack$History;", Cond.fieldLink RX4 10 "BallastTrack" "now" "LBallastTrack$State;", Cond.methodLink RX4 137 yX4_isTrain, Cond.static yX4_isTrain, Cond.initialized RX4, Cond.code yX4_isTrain cX4_isTrain 2 (some .boolean), Cond.methodLink RX4 53 yX4_isWithin, Cond.static yX4_isWithin, Cond.code yX4_isWithin cX4_isWithin 3 (some .boolean), Cond.methodLink RX4 140 yX2_look, Cond.instanceMethod yX2_look, Cond.selects RX2 yX2_look yX2_look, Cond.initialized RX2, Cond.code yX2_look cX2_look 1 none, Cond.fieldLink RX2 29 "BallastTrack$Survey" "worstSize" "I", Cond.fieldLink RX2 32 "BallastTrack$Survey" "order" "I", Cond.methodLink RX2 39 yX2_findHeights, Cond.instanceMethod yX2_findHeights, Cond.selects RX2 yX2_findHeights yX2_findHeights, Cond.code yX2_findHeights cX2_findHeights 4 none]
def wsX4_trains_r2 : List Cond := [Cond.fieldLink RX2 35 "BallastTrack$Survey" "track" "LBallastTrack$State;", Cond.fieldLink RX2 57 "BallastTrack$State" "numbers" "[I", Cond.fieldLink RX2 60 "BallastTrack$State" "sleepers" "I", Cond.fieldLink RX2 52 "BallastTrack$State" "levels" "[I", Cond.methodLink RX2 72 Lib.Math.max.name, Cond.static Lib.Math.max.name, Cond.initialized "java/lang/Math", Cond.code Lib.Math.max.name Lib.Math.max.code 2 (some .int), Cond.fieldLink RX2 9 "BallastTrack$Survey" "heights" "[I", Cond.methodLink RX2 42 yX2_findHanging, Cond.instanceMethod yX2_findHanging, Cond.selects RX2 yX2_findHanging yX2_findHanging, Cond.code yX2_findHanging cX2_findHanging 2 none, Cond.fieldLink RX2 22 "BallastTrack$Survey" "hangingCount" "I", Cond.fieldLink RX2 18 "BallastTrack$Survey" "hanging" "[Z", Cond.methodLink RX2 80 yX2_voidAt, Cond.instanceMethod yX2_voidAt, Cond.selects RX2 yX2_voidAt yX2_voidAt, Cond.code yX2_voidAt cX2_voidAt 2 (some .int), Cond.methodLink RX2 45 yX2_findWorst, Cond.instanceMethod yX2_findWorst, Cond.selects RX2 yX2_findWorst yX2_findWorst, Cond.code yX2_findWorst cX2_findWorst 3 none, Cond.fieldLink RX2 26 "BallastTrack$Survey" "worst" "I"]
def wsX4_trains_r3 : List Cond := [Cond.methodLink RX2 67 Lib.Math.abs.name, Cond.static Lib.Math.abs.name, Cond.code Lib.Math.abs.name Lib.Math.abs.code 1 (some .int), Cond.methodLink RX2 83 yX2_defectAt, Cond.instanceMethod yX2_defectAt, Cond.selects RX2 yX2_defectAt yX2_defectAt, Cond.code yX2_defectAt cX2_defectAt 3 (some .int), Cond.methodLink RX2 48 yX2_orderOf, Cond.instanceMethod yX2_orderOf, Cond.selects RX2 yX2_orderOf yX2_orderOf, Cond.code yX2_orderOf cX2_orderOf 2 (some .int), Cond.methodLink RX4 62 yX0_save, Cond.instanceMethod yX0_save, Cond.selects RX0 yX0_save yX0_save, Cond.initialized RX0, Cond.code yX0_save cX0_save 2 none, Cond.fieldLink RX0 11 "BallastTrack$History" "rows" "[LBallastTrack$State;", Cond.fieldLink RX0 17 "BallastTrack$History" "oldest" "I", Cond.fieldLink RX0 21 "BallastTrack$History" "size" "I", Cond.methodLink RX0 25 yX1_copyFrom, Cond.instanceMethod yX1_copyFrom, Cond.selects RX1 yX1_copyFrom yX1_copyFrom, Cond.initialized RX1, Cond.code yX1_copyFrom cX1_copyFrom 2 none]
def wsX4_trains_r4 : List Cond := [Cond.fieldLink RX1 9 "BallastTrack$State" "sleepers" "I", Cond.fieldLink RX1 15 "BallastTrack$State" "jobs" "I", Cond.fieldLink RX1 18 "BallastTrack$State" "numbers" "[I", Cond.methodLink RX1 43 arraycopyName, Cond.native arraycopyName, Cond.static arraycopyName, Cond.initialized "java/lang/System", Cond.fieldLink RX1 22 "BallastTrack$State" "levels" "[I", Cond.fieldLink RX1 25 "BallastTrack$State" "foulings" "[I", Cond.fieldLink RX1 28 "BallastTrack$State" "settled" "[I", Cond.fieldLink RX1 31 "BallastTrack$State" "lifted" "[I", Cond.fieldLink RX1 34 "BallastTrack$State" "jobRows" "[I", Cond.fieldLink RX1 37 "BallastTrack$State" "accounts" "[I", Cond.methodLink RX4 146 yX4_passTrain, Cond.static yX4_passTrain, Cond.code yX4_passTrain cX4_passTrain 5 none, Cond.fieldLink RX4 234 "BallastTrack$Survey" "track" "LBallastTrack$State;", Cond.fieldLink RX4 58 "BallastTrack$State" "sleepers" "I", Cond.fieldLink RX4 210 "BallastTrack$Survey" "hanging" "[Z", Cond.fieldLink RX4 150 "BallastTrack$State" "accounts" "[I", Cond.methodLink RX4 213 yX2_findLoads, Cond.instanceMethod yX2_findLoads, Cond.selects RX2 yX2_findLoads yX2_findLoads, Cond.code yX2_findLoads cX2_findLoads 4 none]
def wsX4_trains_r5 : List Cond := [Cond.fieldLink RX2 15 "BallastTrack$Survey" "loads" "[I", Cond.methodLink RX2 76 yX2_handOn, Cond.instanceMethod yX2_handOn, Cond.selects RX2 yX2_handOn yX2_handOn, Cond.code yX2_handOn cX2_handOn 4 none, Cond.methodLink RX4 237 yX1_foul, Cond.instanceMethod yX1_foul, Cond.selects RX1 yX1_foul yX1_foul, Cond.code yX1_foul cX1_foul 3 none, Cond.methodLink RX1 59 Lib.Math.min.name, Cond.static Lib.Math.min.name, Cond.code Lib.Math.min.name Lib.Math.min.code 2 (some .int), Cond.methodLink RX4 240 yX4_settlement, Cond.static yX4_settlement, Cond.code yX4_settlement cX4_settlement 5 (some .int), Cond.fieldLink RX4 216 "BallastTrack$Survey" "loads" "[I", Cond.fieldLink RX4 116 "BallastTrack$State" "foulings" "[I", Cond.constantLong RX4 253 (4000000), Cond.methodLink RX4 250 yX4_shareOf, Cond.static yX4_shareOf, Cond.code yX4_shareOf cX4_shareOf 1 (some .int), Cond.methodLink RX4 244 yX1_settle, Cond.instanceMethod yX1_settle, Cond.selects RX1 yX1_settle yX1_settle]
def wsX4_trains_r6 : List Cond := [Cond.code yX1_settle cX1_settle 4 none, Cond.methodLink RX4 247 yX4_minutesLostBy, Cond.static yX4_minutesLostBy, Cond.code yX4_minutesLostBy cX4_minutesLostBy 1 (some .int)]
def wsX4_trains : List Cond := .code yX4_trains cX4_trains 5 (some .int) :: ((wsX4_trains_r1 ++ (wsX4_trains_r2 ++ (wsX4_trains_r3 ++ (wsX4_trains_r4 ++ (wsX4_trains_r5 ++ wsX4_trains_r6))))) ++ wsX40 ++ wsX20 ++ wsX10 ++ wsX00)
def wsX4_keep_r1 : List Cond := [Cond.constant RX4 57 (-100001), Cond.fieldLink RX4 45 "BallastTrack" "images" "[LBallastTrack$State;", Cond.fieldLink RX4 10 "BallastTrack" "now" "LBallastTrack$State;", Cond.fieldLink RX4 49 "BallastTrack" "kept" "[Z", Cond.fieldLink RX4 150 "BallastTrack$State" "accounts" "[I", Cond.methodLink RX4 53 yX4_isWithin, Cond.static yX4_isWithin, Cond.initialized RX4, Cond.code yX4_isWithin cX4_isWithin 3 (some .boolean), Cond.methodLink RX4 101 yX1_copyFrom, Cond.instanceMethod yX1_copyFrom, Cond.selects RX1 yX1_copyFrom yX1_copyFrom, Cond.initialized RX1, Cond.code yX1_copyFrom cX1_copyFrom 2 none, Cond.fieldLink RX1 9 "BallastTrack$State" "sleepers" "I", Cond.fieldLink RX1 15 "BallastTrack$State" "jobs" "I", Cond.fieldLink RX1 18 "BallastTrack$State" "numbers" "[I", Cond.methodLink RX1 43 arraycopyName, Cond.native arraycopyName, Cond.static arraycopyName, Cond.initialized "java/lang/System", Cond.fieldLink RX1 22 "BallastTrack$State" "levels" "[I", Cond.fieldLink RX1 25 "BallastTrack$State" "foulings" "[I", Cond.fieldLink RX1 28 "BallastTrack$State" "settled" "[I"]
def wsX4_keep_r2 : List Cond := [Cond.fieldLink RX1 31 "BallastTrack$State" "lifted" "[I", Cond.fieldLink RX1 34 "BallastTrack$State" "jobRows" "[I", Cond.fieldLink RX1 37 "BallastTrack$State" "accounts" "[I"]
def wsX4_keep : List Cond := .code yX4_keep cX4_keep 2 (some .int) :: ((wsX4_keep_r1 ++ wsX4_keep_r2) ++ wsX40 ++ wsX10)
def wsX4_back_r1 : List Cond := [Cond.constant RX4 57 (-100001), Cond.fieldLink RX4 49 "BallastTrack" "kept" "[Z", Cond.constant RX4 133 (-100002), Cond.fieldLink RX4 34 "BallastTrack" "history" "LBallastTrack$History;", Cond.fieldLink RX4 10 "BallastTrack" "now" "LBallastTrack$State;", Cond.fieldLink RX4 45 "BallastTrack" "images" "[LBallastTrack$State;", Cond.fieldLink RX4 150 "BallastTrack$State" "accounts" "[I", Cond.methodLink RX4 53 yX4_isWithin, Cond.static yX4_isWithin, Cond.initialized RX4, Cond.code yX4_isWithin cX4_isWithin 3 (some .boolean), Cond.methodLink RX4 62 yX0_save, Cond.instanceMethod yX0_save, Cond.selects RX0 yX0_save yX0_save, Cond.initialized RX0, Cond.code yX0_save cX0_save 2 none, Cond.fieldLink RX0 11 "BallastTrack$History" "rows" "[LBallastTrack$State;", Cond.fieldLink RX0 17 "BallastTrack$History" "oldest" "I", Cond.fieldLink RX0 21 "BallastTrack$History" "size" "I", Cond.methodLink RX0 25 yX1_copyFrom, Cond.instanceMethod yX1_copyFrom, Cond.selects RX1 yX1_copyFrom yX1_copyFrom, Cond.initialized RX1, Cond.code yX1_copyFrom cX1_copyFrom 2 none]
def wsX4_back_r2 : List Cond := [Cond.fieldLink RX1 9 "BallastTrack$State" "sleepers" "I", Cond.fieldLink RX1 15 "BallastTrack$State" "jobs" "I", Cond.fieldLink RX1 18 "BallastTrack$State" "numbers" "[I", Cond.methodLink RX1 43 arraycopyName, Cond.native arraycopyName, Cond.static arraycopyName, Cond.initialized "java/lang/System", Cond.fieldLink RX1 22 "BallastTrack$State" "levels" "[I", Cond.fieldLink RX1 25 "BallastTrack$State" "foulings" "[I", Cond.fieldLink RX1 28 "BallastTrack$State" "settled" "[I", Cond.fieldLink RX1 31 "BallastTrack$State" "lifted" "[I", Cond.fieldLink RX1 34 "BallastTrack$State" "jobRows" "[I", Cond.fieldLink RX1 37 "BallastTrack$State" "accounts" "[I", Cond.methodLink RX4 101 yX1_copyFrom]
def wsX4_back : List Cond := .code yX4_back cX4_back 2 (some .int) :: ((wsX4_back_r1 ++ wsX4_back_r2) ++ wsX40 ++ wsX10 ++ wsX00)
def wsX4_undo_r1 : List Cond := [Cond.fieldLink RX4 34 "BallastTrack" "history" "LBallastTrack$History;", Cond.fieldLink RX4 153 "BallastTrack$History" "size" "I", Cond.constant RX4 133 (-100002), Cond.fieldLink RX4 10 "BallastTrack" "now" "LBallastTrack$State;", Cond.methodLink RX4 156 yX0_restore, Cond.instanceMethod yX0_restore, Cond.selects RX0 yX0_restore yX0_restore, Cond.initialized RX0, Cond.code yX0_restore cX0_restore 2 none, Cond.fieldLink RX0 21 "BallastTrack$History" "size" "I", Cond.fieldLink RX0 11 "BallastTrack$History" "rows" "[LBallastTrack$State;", Cond.fieldLink RX0 17 "BallastTrack$History" "oldest" "I", Cond.methodLink RX0 25 yX1_copyFrom, Cond.instanceMethod yX1_copyFrom, Cond.selects RX1 yX1_copyFrom yX1_copyFrom, Cond.initialized RX1, Cond.code yX1_copyFrom cX1_copyFrom 2 none, Cond.fieldLink RX1 9 "BallastTrack$State" "sleepers" "I", Cond.fieldLink RX1 15 "BallastTrack$State" "jobs" "I", Cond.fieldLink RX1 18 "BallastTrack$State" "numbers" "[I", Cond.methodLink RX1 43 arraycopyName, Cond.native arraycopyName, Cond.static arraycopyName, Cond.initialized "java/lang/System"]
def wsX4_undo_r2 : List Cond := [Cond.fieldLink RX1 22 "BallastTrack$State" "levels" "[I", Cond.fieldLink RX1 25 "BallastTrack$State" "foulings" "[I", Cond.fieldLink RX1 28 "BallastTrack$State" "settled" "[I", Cond.fieldLink RX1 31 "BallastTrack$State" "lifted" "[I", Cond.fieldLink RX1 34 "BallastTrack$State" "jobRows" "[I", Cond.fieldLink RX1 37 "BallastTrack$State" "accounts" "[I"]
def wsX4_undo : List Cond := .code yX4_undo cX4_undo 1 (some .int) :: ((wsX4_undo_r1 ++ wsX4_undo_r2) ++ wsX40 ++ wsX00 ++ wsX10)
def wsX4_keptMask : List Cond := .code yX4_keptMask cX4_keptMask 3 (some .int) :: ([.fieldLink RX4 49 "BallastTrack" "kept" "[Z"] ++ wsX40)
def wsX4_count_r1 : List Cond := [Cond.constant RX4 57 (-100001), Cond.fieldLink RX4 10 "BallastTrack" "now" "LBallastTrack$State;", Cond.fieldLink RX4 76 "BallastTrack$State" "numbers" "[I", Cond.fieldLink RX4 58 "BallastTrack$State" "sleepers" "I", Cond.fieldLink RX4 119 "BallastTrack$State" "jobs" "I", Cond.fieldLink RX4 21 "BallastTrack" "survey" "LBallastTrack$Survey;", Cond.fieldLink RX4 159 "BallastTrack$Survey" "hangingCount" "I", Cond.fieldLink RX4 143 "BallastTrack$Survey" "order" "I", Cond.fieldLink RX4 41 "BallastTrack" "text" "LBallastTrack$Text;", Cond.fieldLink RX4 94 "BallastTrack$Text" "length" "I", Cond.fieldLink RX4 34 "BallastTrack" "history" "LBallastTrack$History;", Cond.fieldLink RX4 153 "BallastTrack$History" "size" "I", Cond.methodLink RX4 53 yX4_isWithin, Cond.static yX4_isWithin, Cond.initialized RX4, Cond.code yX4_isWithin cX4_isWithin 3 (some .boolean), Cond.methodLink RX4 140 yX2_look, Cond.instanceMethod yX2_look, Cond.selects RX2 yX2_look yX2_look, Cond.initialized RX2, Cond.code yX2_look cX2_look 1 none, Cond.fieldLink RX2 29 "BallastTrack$Survey" "worstSize" "I", Cond.fieldLink RX2 32 "BallastTrack$Survey" "order" "I", Cond.methodLink RX2 39 yX2_findHeights]
def wsX4_count_r2 : List Cond := [Cond.instanceMethod yX2_findHeights, Cond.selects RX2 yX2_findHeights yX2_findHeights, Cond.code yX2_findHeights cX2_findHeights 4 none, Cond.fieldLink RX2 35 "BallastTrack$Survey" "track" "LBallastTrack$State;", Cond.fieldLink RX2 57 "BallastTrack$State" "numbers" "[I", Cond.fieldLink RX2 60 "BallastTrack$State" "sleepers" "I", Cond.fieldLink RX2 52 "BallastTrack$State" "levels" "[I", Cond.methodLink RX2 72 Lib.Math.max.name, Cond.static Lib.Math.max.name, Cond.initialized "java/lang/Math", Cond.code Lib.Math.max.name Lib.Math.max.code 2 (some .int), Cond.fieldLink RX2 9 "BallastTrack$Survey" "heights" "[I", Cond.methodLink RX2 42 yX2_findHanging, Cond.instanceMethod yX2_findHanging, Cond.selects RX2 yX2_findHanging yX2_findHanging, Cond.code yX2_findHanging cX2_findHanging 2 none, Cond.fieldLink RX2 22 "BallastTrack$Survey" "hangingCount" "I", Cond.fieldLink RX2 18 "BallastTrack$Survey" "hanging" "[Z", Cond.methodLink RX2 80 yX2_voidAt, Cond.instanceMethod yX2_voidAt, Cond.selects RX2 yX2_voidAt yX2_voidAt, Cond.code yX2_voidAt cX2_voidAt 2 (some .int), Cond.methodLink RX2 45 yX2_findWorst, Cond.instanceMethod yX2_findWorst]
def wsX4_count_r3 : List Cond := [Cond.selects RX2 yX2_findWorst yX2_findWorst, Cond.code yX2_findWorst cX2_findWorst 3 none, Cond.fieldLink RX2 26 "BallastTrack$Survey" "worst" "I", Cond.methodLink RX2 67 Lib.Math.abs.name, Cond.static Lib.Math.abs.name, Cond.code Lib.Math.abs.name Lib.Math.abs.code 1 (some .int), Cond.methodLink RX2 83 yX2_defectAt, Cond.instanceMethod yX2_defectAt, Cond.selects RX2 yX2_defectAt yX2_defectAt, Cond.code yX2_defectAt cX2_defectAt 3 (some .int), Cond.methodLink RX2 48 yX2_orderOf, Cond.instanceMethod yX2_orderOf, Cond.selects RX2 yX2_orderOf yX2_orderOf, Cond.code yX2_orderOf cX2_orderOf 2 (some .int), Cond.methodLink RX4 162 yX4_keptMask, Cond.instanceMethod yX4_keptMask, Cond.selects RX4 yX4_keptMask yX4_keptMask, Cond.code yX4_keptMask cX4_keptMask 3 (some .int), Cond.fieldLink RX4 49 "BallastTrack" "kept" "[Z"]
def wsX4_count : List Cond := .code yX4_count cX4_count 2 (some .int) :: ((wsX4_count_r1 ++ (wsX4_count_r2 ++ wsX4_count_r3)) ++ wsX40 ++ wsX10 ++ wsX20 ++ wsX30 ++ wsX00)
def wsX4_surveyed_r1 : List Cond := [Cond.fieldLink RX4 21 "BallastTrack" "survey" "LBallastTrack$Survey;", Cond.fieldLink RX4 179 "BallastTrack$Survey" "heights" "[I", Cond.fieldLink RX4 210 "BallastTrack$Survey" "hanging" "[Z", Cond.fieldLink RX4 216 "BallastTrack$Survey" "loads" "[I", Cond.methodLink RX4 222 Lib.Math.abs.name, Cond.static Lib.Math.abs.name, Cond.initialized "java/lang/Math", Cond.code Lib.Math.abs.name Lib.Math.abs.code 1 (some .int), Cond.methodLink RX4 140 yX2_look, Cond.instanceMethod yX2_look, Cond.selects RX2 yX2_look yX2_look, Cond.initialized RX2, Cond.code yX2_look cX2_look 1 none, Cond.fieldLink RX2 29 "BallastTrack$Survey" "worstSize" "I", Cond.fieldLink RX2 32 "BallastTrack$Survey" "order" "I", Cond.methodLink RX2 39 yX2_findHeights, Cond.instanceMethod yX2_findHeights, Cond.selects RX2 yX2_findHeights yX2_findHeights, Cond.code yX2_findHeights cX2_findHeights 4 none, Cond.fieldLink RX2 35 "BallastTrack$Survey" "track" "LBallastTrack$State;", Cond.fieldLink RX2 57 "BallastTrack$State" "numbers" "[I", Cond.fieldLink RX2 60 "BallastTrack$State" "sleepers" "I", Cond.fieldLink RX2 52 "BallastTrack$State" "levels" "[I", Cond.methodLink RX2 72 Lib.Math.max.name]
def wsX4_surveyed_r2 : List Cond := [Cond.static Lib.Math.max.name, Cond.code Lib.Math.max.name Lib.Math.max.code 2 (some .int), Cond.fieldLink RX2 9 "BallastTrack$Survey" "heights" "[I", Cond.methodLink RX2 42 yX2_findHanging, Cond.instanceMethod yX2_findHanging, Cond.selects RX2 yX2_findHanging yX2_findHanging, Cond.code yX2_findHanging cX2_findHanging 2 none, Cond.fieldLink RX2 22 "BallastTrack$Survey" "hangingCount" "I", Cond.fieldLink RX2 18 "BallastTrack$Survey" "hanging" "[Z", Cond.methodLink RX2 80 yX2_voidAt, Cond.instanceMethod yX2_voidAt, Cond.selects RX2 yX2_voidAt yX2_voidAt, Cond.code yX2_voidAt cX2_voidAt 2 (some .int), Cond.methodLink RX2 45 yX2_findWorst, Cond.instanceMethod yX2_findWorst, Cond.selects RX2 yX2_findWorst yX2_findWorst, Cond.code yX2_findWorst cX2_findWorst 3 none, Cond.fieldLink RX2 26 "BallastTrack$Survey" "worst" "I", Cond.methodLink RX2 67 Lib.Math.abs.name, Cond.methodLink RX2 83 yX2_defectAt, Cond.instanceMethod yX2_defectAt, Cond.selects RX2 yX2_defectAt yX2_defectAt, Cond.code yX2_defectAt cX2_defectAt 3 (some .int), Cond.static yX4_isWithin]
def wsX4_surveyed_r3 : List Cond := [Cond.initialized RX4, Cond.code yX4_isWithin cX4_isWithin 3 (some .boolean), Cond.methodLink RX2 48 yX2_orderOf, Cond.instanceMethod yX2_orderOf, Cond.selects RX2 yX2_orderOf yX2_orderOf, Cond.code yX2_orderOf cX2_orderOf 2 (some .int), Cond.methodLink RX4 207 yX2_voidAt, Cond.methodLink RX4 213 yX2_findLoads, Cond.instanceMethod yX2_findLoads, Cond.selects RX2 yX2_findLoads yX2_findLoads, Cond.code yX2_findLoads cX2_findLoads 4 none, Cond.fieldLink RX2 15 "BallastTrack$Survey" "loads" "[I", Cond.methodLink RX2 76 yX2_handOn, Cond.instanceMethod yX2_handOn, Cond.selects RX2 yX2_handOn yX2_handOn, Cond.code yX2_handOn cX2_handOn 4 none, Cond.methodLink RX4 219 yX2_defectAt, Cond.methodLink RX4 225 yX2_orderOf]
def wsX4_surveyed : List Cond := .code yX4_surveyed cX4_surveyed 3 (some .int) :: ((wsX4_surveyed_r1 ++ (wsX4_surveyed_r2 ++ wsX4_surveyed_r3)) ++ wsX40 ++ wsX20 ++ wsX10)
def wsX4_sleeper_r1 : List Cond := [Cond.fieldLink RX4 10 "BallastTrack" "now" "LBallastTrack$State;", Cond.constant RX4 57 (-100001), Cond.fieldLink RX4 87 "BallastTrack$State" "levels" "[I", Cond.fieldLink RX4 116 "BallastTrack$State" "foulings" "[I", Cond.fieldLink RX4 166 "BallastTrack$State" "settled" "[I", Cond.fieldLink RX4 169 "BallastTrack$State" "lifted" "[I", Cond.methodLink RX4 80 yX1_has, Cond.instanceMethod yX1_has, Cond.selects RX1 yX1_has yX1_has, Cond.initialized RX1, Cond.code yX1_has cX1_has 2 (some .boolean), Cond.fieldLink RX1 9 "BallastTrack$State" "sleepers" "I", Cond.static yX4_isWithin, Cond.initialized RX4, Cond.code yX4_isWithin cX4_isWithin 3 (some .boolean), Cond.methodLink RX4 53 yX4_isWithin, Cond.methodLink RX4 172 yX4_surveyed, Cond.instanceMethod yX4_surveyed, Cond.selects RX4 yX4_surveyed yX4_surveyed, Cond.code yX4_surveyed cX4_surveyed 3 (some .int), Cond.fieldLink RX4 21 "BallastTrack" "survey" "LBallastTrack$Survey;", Cond.fieldLink RX4 179 "BallastTrack$Survey" "heights" "[I", Cond.fieldLink RX4 210 "BallastTrack$Survey" "hanging" "[Z", Cond.fieldLink RX4 216 "BallastTrack$Survey" "loads" "[I"]
def wsX4_sleeper_r2 : List Cond := [Cond.methodLink RX4 222 Lib.Math.abs.name, Cond.static Lib.Math.abs.name, Cond.initialized "java/lang/Math", Cond.code Lib.Math.abs.name Lib.Math.abs.code 1 (some .int), Cond.methodLink RX4 140 yX2_look, Cond.instanceMethod yX2_look, Cond.selects RX2 yX2_look yX2_look, Cond.initialized RX2, Cond.code yX2_look cX2_look 1 none, Cond.fieldLink RX2 29 "BallastTrack$Survey" "worstSize" "I", Cond.fieldLink RX2 32 "BallastTrack$Survey" "order" "I", Cond.methodLink RX2 39 yX2_findHeights, Cond.instanceMethod yX2_findHeights, Cond.selects RX2 yX2_findHeights yX2_findHeights, Cond.code yX2_findHeights cX2_findHeights 4 none, Cond.fieldLink RX2 35 "BallastTrack$Survey" "track" "LBallastTrack$State;", Cond.fieldLink RX2 57 "BallastTrack$State" "numbers" "[I", Cond.fieldLink RX2 60 "BallastTrack$State" "sleepers" "I", Cond.fieldLink RX2 52 "BallastTrack$State" "levels" "[I", Cond.methodLink RX2 72 Lib.Math.max.name, Cond.static Lib.Math.max.name, Cond.code Lib.Math.max.name Lib.Math.max.code 2 (some .int), Cond.fieldLink RX2 9 "BallastTrack$Survey" "heights" "[I", Cond.methodLink RX2 42 yX2_findHanging]
def wsX4_sleeper_r3 : List Cond := [Cond.instanceMethod yX2_findHanging, Cond.selects RX2 yX2_findHanging yX2_findHanging, Cond.code yX2_findHanging cX2_findHanging 2 none, Cond.fieldLink RX2 22 "BallastTrack$Survey" "hangingCount" "I", Cond.fieldLink RX2 18 "BallastTrack$Survey" "hanging" "[Z", Cond.methodLink RX2 80 yX2_voidAt, Cond.instanceMethod yX2_voidAt, Cond.selects RX2 yX2_voidAt yX2_voidAt, Cond.code yX2_voidAt cX2_voidAt 2 (some .int), Cond.methodLink RX2 45 yX2_findWorst, Cond.instanceMethod yX2_findWorst, Cond.selects RX2 yX2_findWorst yX2_findWorst, Cond.code yX2_findWorst cX2_findWorst 3 none, Cond.fieldLink RX2 26 "BallastTrack$Survey" "worst" "I", Cond.methodLink RX2 67 Lib.Math.abs.name, Cond.methodLink RX2 83 yX2_defectAt, Cond.instanceMethod yX2_defectAt, Cond.selects RX2 yX2_defectAt yX2_defectAt, Cond.code yX2_defectAt cX2_defectAt 3 (some .int), Cond.methodLink RX2 48 yX2_orderOf, Cond.instanceMethod yX2_orderOf, Cond.selects RX2 yX2_orderOf yX2_orderOf, Cond.code yX2_orderOf cX2_orderOf 2 (some .int), Cond.methodLink RX4 207 yX2_voidAt]
def wsX4_sleeper_r4 : List Cond := [Cond.methodLink RX4 213 yX2_findLoads, Cond.instanceMethod yX2_findLoads, Cond.selects RX2 yX2_findLoads yX2_findLoads, Cond.code yX2_findLoads cX2_findLoads 4 none, Cond.fieldLink RX2 15 "BallastTrack$Survey" "loads" "[I", Cond.methodLink RX2 76 yX2_handOn, Cond.instanceMethod yX2_handOn, Cond.selects RX2 yX2_handOn yX2_handOn, Cond.code yX2_handOn cX2_handOn 4 none, Cond.methodLink RX4 219 yX2_defectAt, Cond.methodLink RX4 225 yX2_orderOf]
def wsX4_sleeper : List Cond := .code yX4_sleeper cX4_sleeper 3 (some .int) :: ((wsX4_sleeper_r1 ++ (wsX4_sleeper_r2 ++ (wsX4_sleeper_r3 ++ wsX4_sleeper_r4))) ++ wsX40 ++ wsX10 ++ wsX20)
def wsX4_job : List Cond := .code yX4_job cX4_job 3 (some .int) :: ([.constant RX4 57 (-100001), .fieldLink RX4 10 "BallastTrack" "now" "LBallastTrack$State;", .fieldLink RX4 119 "BallastTrack$State" "jobs" "I", .constant RX4 175 (-100009), .methodLink RX4 53 yX4_isWithin, .static yX4_isWithin, .initialized RX4, .code yX4_isWithin cX4_isWithin 3 (some .boolean), .methodLink RX4 126 yX1_jobValue, .instanceMethod yX1_jobValue, .selects RX1 yX1_jobValue yX1_jobValue, .initialized RX1, .code yX1_jobValue cX1_jobValue 3 (some .int), .fieldLink RX1 34 "BallastTrack$State" "jobRows" "[I"] ++ wsX40 ++ wsX10)
def wsX4_account : List Cond := .code yX4_account cX4_account 2 (some .int) :: ([.constant RX4 57 (-100001), .fieldLink RX4 10 "BallastTrack" "now" "LBallastTrack$State;", .fieldLink RX4 150 "BallastTrack$State" "accounts" "[I", .methodLink RX4 53 yX4_isWithin, .static yX4_isWithin, .initialized RX4, .code yX4_isWithin cX4_isWithin 3 (some .boolean)] ++ wsX40 ++ wsX10)
def wsX4_rail_r1 : List Cond := [Cond.fieldLink RX4 10 "BallastTrack" "now" "LBallastTrack$State;", Cond.constant RX4 57 (-100001), Cond.fieldLink RX4 21 "BallastTrack" "survey" "LBallastTrack$Survey;", Cond.fieldLink RX4 179 "BallastTrack$Survey" "heights" "[I", Cond.methodLink RX4 80 yX1_has, Cond.instanceMethod yX1_has, Cond.selects RX1 yX1_has yX1_has, Cond.initialized RX1, Cond.code yX1_has cX1_has 2 (some .boolean), Cond.fieldLink RX1 9 "BallastTrack$State" "sleepers" "I", Cond.static yX4_isWithin, Cond.initialized RX4, Cond.code yX4_isWithin cX4_isWithin 3 (some .boolean), Cond.methodLink RX4 53 yX4_isWithin, Cond.methodLink RX4 176 yX2_greatestOfAll, Cond.instanceMethod yX2_greatestOfAll, Cond.selects RX2 yX2_greatestOfAll yX2_greatestOfAll, Cond.initialized RX2, Cond.code yX2_greatestOfAll cX2_greatestOfAll 5 (some .int), Cond.fieldLink RX2 35 "BallastTrack$Survey" "track" "LBallastTrack$State;", Cond.fieldLink RX2 52 "BallastTrack$State" "levels" "[I", Cond.fieldLink RX2 60 "BallastTrack$State" "sleepers" "I", Cond.fieldLink RX2 57 "BallastTrack$State" "numbers" "[I", Cond.methodLink RX2 67 Lib.Math.abs.name]
def wsX4_rail_r2 : List Cond := [Cond.static Lib.Math.abs.name, Cond.initialized "java/lang/Math", Cond.code Lib.Math.abs.name Lib.Math.abs.code 1 (some .int), Cond.methodLink RX2 72 Lib.Math.max.name, Cond.static Lib.Math.max.name, Cond.code Lib.Math.max.name Lib.Math.max.code 2 (some .int), Cond.methodLink RX4 140 yX2_look, Cond.instanceMethod yX2_look, Cond.selects RX2 yX2_look yX2_look, Cond.code yX2_look cX2_look 1 none, Cond.fieldLink RX2 29 "BallastTrack$Survey" "worstSize" "I", Cond.fieldLink RX2 32 "BallastTrack$Survey" "order" "I", Cond.methodLink RX2 39 yX2_findHeights, Cond.instanceMethod yX2_findHeights, Cond.selects RX2 yX2_findHeights yX2_findHeights, Cond.code yX2_findHeights cX2_findHeights 4 none, Cond.fieldLink RX2 9 "BallastTrack$Survey" "heights" "[I", Cond.methodLink RX2 42 yX2_findHanging, Cond.instanceMethod yX2_findHanging, Cond.selects RX2 yX2_findHanging yX2_findHanging, Cond.code yX2_findHanging cX2_findHanging 2 none, Cond.fieldLink RX2 22 "BallastTrack$Survey" "hangingCount" "I", Cond.fieldLink RX2 18 "BallastTrack$Survey" "hanging" "[Z", Cond.methodLink RX2 80 yX2_voidAt]
def wsX4_rail_r3 : List Cond := [Cond.instanceMethod yX2_voidAt, Cond.selects RX2 yX2_voidAt yX2_voidAt, Cond.code yX2_voidAt cX2_voidAt 2 (some .int), Cond.methodLink RX2 45 yX2_findWorst, Cond.instanceMethod yX2_findWorst, Cond.selects RX2 yX2_findWorst yX2_findWorst, Cond.code yX2_findWorst cX2_findWorst 3 none, Cond.fieldLink RX2 26 "BallastTrack$Survey" "worst" "I", Cond.methodLink RX2 83 yX2_defectAt, Cond.instanceMethod yX2_defectAt, Cond.selects RX2 yX2_defectAt yX2_defectAt, Cond.code yX2_defectAt cX2_defectAt 3 (some .int), Cond.methodLink RX2 48 yX2_orderOf, Cond.instanceMethod yX2_orderOf, Cond.selects RX2 yX2_orderOf yX2_orderOf, Cond.code yX2_orderOf cX2_orderOf 2 (some .int)]
def wsX4_rail : List Cond := .code yX4_rail cX4_rail 3 (some .int) :: ((wsX4_rail_r1 ++ (wsX4_rail_r2 ++ wsX4_rail_r3)) ++ wsX40 ++ wsX20 ++ wsX10)
def wsX4_why_r1 : List Cond := [Cond.constant RX4 57 (-100001), Cond.fieldLink RX4 21 "BallastTrack" "survey" "LBallastTrack$Survey;", Cond.fieldLink RX4 143 "BallastTrack$Survey" "order" "I", Cond.constant RX4 175 (-100009), Cond.fieldLink RX4 182 "BallastTrack$Survey" "worst" "I", Cond.fieldLink RX4 185 "BallastTrack$Survey" "worstSize" "I", Cond.methodLink RX4 53 yX4_isWithin, Cond.static yX4_isWithin, Cond.initialized RX4, Cond.code yX4_isWithin cX4_isWithin 3 (some .boolean), Cond.methodLink RX4 140 yX2_look, Cond.instanceMethod yX2_look, Cond.selects RX2 yX2_look yX2_look, Cond.initialized RX2, Cond.code yX2_look cX2_look 1 none, Cond.fieldLink RX2 29 "BallastTrack$Survey" "worstSize" "I", Cond.fieldLink RX2 32 "BallastTrack$Survey" "order" "I", Cond.methodLink RX2 39 yX2_findHeights, Cond.instanceMethod yX2_findHeights, Cond.selects RX2 yX2_findHeights yX2_findHeights, Cond.code yX2_findHeights cX2_findHeights 4 none, Cond.fieldLink RX2 35 "BallastTrack$Survey" "track" "LBallastTrack$State;", Cond.fieldLink RX2 57 "BallastTrack$State" "numbers" "[I", Cond.fieldLink RX2 60 "BallastTrack$State" "sleepers" "I"]
def wsX4_why_r2 : List Cond := [Cond.fieldLink RX2 52 "BallastTrack$State" "levels" "[I", Cond.methodLink RX2 72 Lib.Math.max.name, Cond.static Lib.Math.max.name, Cond.initialized "java/lang/Math", Cond.code Lib.Math.max.name Lib.Math.max.code 2 (some .int), Cond.fieldLink RX2 9 "BallastTrack$Survey" "heights" "[I", Cond.methodLink RX2 42 yX2_findHanging, Cond.instanceMethod yX2_findHanging, Cond.selects RX2 yX2_findHanging yX2_findHanging, Cond.code yX2_findHanging cX2_findHanging 2 none, Cond.fieldLink RX2 22 "BallastTrack$Survey" "hangingCount" "I", Cond.fieldLink RX2 18 "BallastTrack$Survey" "hanging" "[Z", Cond.methodLink RX2 80 yX2_voidAt, Cond.instanceMethod yX2_voidAt, Cond.selects RX2 yX2_voidAt yX2_voidAt, Cond.code yX2_voidAt cX2_voidAt 2 (some .int), Cond.methodLink RX2 45 yX2_findWorst, Cond.instanceMethod yX2_findWorst, Cond.selects RX2 yX2_findWorst yX2_findWorst, Cond.code yX2_findWorst cX2_findWorst 3 none, Cond.fieldLink RX2 26 "BallastTrack$Survey" "worst" "I", Cond.methodLink RX2 67 Lib.Math.abs.name, Cond.static Lib.Math.abs.name, Cond.code Lib.Math.abs.name Lib.Math.abs.code 1 (some .int)]
def wsX4_why_r3 : List Cond := [Cond.methodLink RX2 83 yX2_defectAt, Cond.instanceMethod yX2_defectAt, Cond.selects RX2 yX2_defectAt yX2_defectAt, Cond.code yX2_defectAt cX2_defectAt 3 (some .int), Cond.methodLink RX2 48 yX2_orderOf, Cond.instanceMethod yX2_orderOf, Cond.selects RX2 yX2_orderOf yX2_orderOf, Cond.code yX2_orderOf cX2_orderOf 2 (some .int)]
def wsX4_why : List Cond := .code yX4_why cX4_why 2 (some .int) :: ((wsX4_why_r1 ++ (wsX4_why_r2 ++ wsX4_why_r3)) ++ wsX40 ++ wsX20 ++ wsX10)
def wsX4_lifts_r1 : List Cond := [Cond.fieldLink RX4 10 "BallastTrack" "now" "LBallastTrack$State;", Cond.constant RX4 57 (-100001), Cond.fieldLink RX4 87 "BallastTrack$State" "levels" "[I", Cond.fieldLink RX4 76 "BallastTrack$State" "numbers" "[I", Cond.methodLink RX4 80 yX1_has, Cond.instanceMethod yX1_has, Cond.selects RX1 yX1_has yX1_has, Cond.initialized RX1, Cond.code yX1_has cX1_has 2 (some .boolean), Cond.fieldLink RX1 9 "BallastTrack$State" "sleepers" "I", Cond.static yX4_isWithin, Cond.initialized RX4, Cond.code yX4_isWithin cX4_isWithin 3 (some .boolean), Cond.methodLink RX4 84 yX4_isLevel, Cond.static yX4_isLevel, Cond.code yX4_isLevel cX4_isLevel 1 (some .boolean), Cond.methodLink RX4 53 yX4_isWithin, Cond.methodLink RX4 188 yX1_liftOf, Cond.instanceMethod yX1_liftOf, Cond.selects RX1 yX1_liftOf yX1_liftOf, Cond.code yX1_liftOf cX1_liftOf 4 (some .int), Cond.fieldLink RX1 22 "BallastTrack$State" "levels" "[I", Cond.fieldLink RX1 18 "BallastTrack$State" "numbers" "[I", Cond.methodLink RX1 59 Lib.Math.min.name]
def wsX4_lifts_r2 : List Cond := [Cond.static Lib.Math.min.name, Cond.initialized "java/lang/Math", Cond.code Lib.Math.min.name Lib.Math.min.code 2 (some .int)]
def wsX4_lifts : List Cond := .code yX4_lifts cX4_lifts 4 (some .int) :: ((wsX4_lifts_r1 ++ wsX4_lifts_r2) ++ wsX40 ++ wsX10)
def wsX4_trainsUntil_r1 : List Cond := [Cond.constant RX4 57 (-100001), Cond.fieldLink RX4 25 "BallastTrack" "trial" "LBallastTrack$State;", Cond.fieldLink RX4 10 "BallastTrack" "now" "LBallastTrack$State;", Cond.fieldLink RX4 28 "BallastTrack" "trialSurvey" "LBallastTrack$Survey;", Cond.fieldLink RX4 143 "BallastTrack$Survey" "order" "I", Cond.constant RX4 175 (-100009), Cond.methodLink RX4 137 yX4_isTrain, Cond.static yX4_isTrain, Cond.initialized RX4, Cond.code yX4_isTrain cX4_isTrain 2 (some .boolean), Cond.methodLink RX4 53 yX4_isWithin, Cond.static yX4_isWithin, Cond.code yX4_isWithin cX4_isWithin 3 (some .boolean), Cond.methodLink RX4 101 yX1_copyFrom, Cond.instanceMethod yX1_copyFrom, Cond.selects RX1 yX1_copyFrom yX1_copyFrom, Cond.initialized RX1, Cond.code yX1_copyFrom cX1_copyFrom 2 none, Cond.fieldLink RX1 9 "BallastTrack$State" "sleepers" "I", Cond.fieldLink RX1 15 "BallastTrack$State" "jobs" "I", Cond.fieldLink RX1 18 "BallastTrack$State" "numbers" "[I", Cond.methodLink RX1 43 arraycopyName, Cond.native arraycopyName, Cond.static arraycopyName]
def wsX4_trainsUntil_r2 : List Cond := [Cond.initialized "java/lang/System", Cond.fieldLink RX1 22 "BallastTrack$State" "levels" "[I", Cond.fieldLink RX1 25 "BallastTrack$State" "foulings" "[I", Cond.fieldLink RX1 28 "BallastTrack$State" "settled" "[I", Cond.fieldLink RX1 31 "BallastTrack$State" "lifted" "[I", Cond.fieldLink RX1 34 "BallastTrack$State" "jobRows" "[I", Cond.fieldLink RX1 37 "BallastTrack$State" "accounts" "[I", Cond.methodLink RX4 140 yX2_look, Cond.instanceMethod yX2_look, Cond.selects RX2 yX2_look yX2_look, Cond.initialized RX2, Cond.code yX2_look cX2_look 1 none, Cond.fieldLink RX2 29 "BallastTrack$Survey" "worstSize" "I", Cond.fieldLink RX2 32 "BallastTrack$Survey" "order" "I", Cond.methodLink RX2 39 yX2_findHeights, Cond.instanceMethod yX2_findHeights, Cond.selects RX2 yX2_findHeights yX2_findHeights, Cond.code yX2_findHeights cX2_findHeights 4 none, Cond.fieldLink RX2 35 "BallastTrack$Survey" "track" "LBallastTrack$State;", Cond.fieldLink RX2 57 "BallastTrack$State" "numbers" "[I", Cond.fieldLink RX2 60 "BallastTrack$State" "sleepers" "I", Cond.fieldLink RX2 52 "BallastTrack$State" "levels" "[I", Cond.methodLink RX2 72 Lib.Math.max.name, Cond.static Lib.Math.max.name]
def wsX4_trainsUntil_r3 : List Cond := [Cond.initialized "java/lang/Math", Cond.code Lib.Math.max.name Lib.Math.max.code 2 (some .int), Cond.fieldLink RX2 9 "BallastTrack$Survey" "heights" "[I", Cond.methodLink RX2 42 yX2_findHanging, Cond.instanceMethod yX2_findHanging, Cond.selects RX2 yX2_findHanging yX2_findHanging, Cond.code yX2_findHanging cX2_findHanging 2 none, Cond.fieldLink RX2 22 "BallastTrack$Survey" "hangingCount" "I", Cond.fieldLink RX2 18 "BallastTrack$Survey" "hanging" "[Z", Cond.methodLink RX2 80 yX2_voidAt, Cond.instanceMethod yX2_voidAt, Cond.selects RX2 yX2_voidAt yX2_voidAt, Cond.code yX2_voidAt cX2_voidAt 2 (some .int), Cond.methodLink RX2 45 yX2_findWorst, Cond.instanceMethod yX2_findWorst, Cond.selects RX2 yX2_findWorst yX2_findWorst, Cond.code yX2_findWorst cX2_findWorst 3 none, Cond.fieldLink RX2 26 "BallastTrack$Survey" "worst" "I", Cond.methodLink RX2 67 Lib.Math.abs.name, Cond.static Lib.Math.abs.name, Cond.code Lib.Math.abs.name Lib.Math.abs.code 1 (some .int), Cond.methodLink RX2 83 yX2_defectAt, Cond.instanceMethod yX2_defectAt, Cond.selects RX2 yX2_defectAt yX2_defectAt]
def wsX4_trainsUntil_r4 : List Cond := [Cond.code yX2_defectAt cX2_defectAt 3 (some .int), Cond.methodLink RX2 48 yX2_orderOf, Cond.instanceMethod yX2_orderOf, Cond.selects RX2 yX2_orderOf yX2_orderOf, Cond.code yX2_orderOf cX2_orderOf 2 (some .int), Cond.methodLink RX4 146 yX4_passTrain, Cond.static yX4_passTrain, Cond.code yX4_passTrain cX4_passTrain 5 none, Cond.fieldLink RX4 234 "BallastTrack$Survey" "track" "LBallastTrack$State;", Cond.fieldLink RX4 58 "BallastTrack$State" "sleepers" "I", Cond.fieldLink RX4 210 "BallastTrack$Survey" "hanging" "[Z", Cond.fieldLink RX4 150 "BallastTrack$State" "accounts" "[I", Cond.methodLink RX4 213 yX2_findLoads, Cond.instanceMethod yX2_findLoads, Cond.selects RX2 yX2_findLoads yX2_findLoads, Cond.code yX2_findLoads cX2_findLoads 4 none, Cond.fieldLink RX2 15 "BallastTrack$Survey" "loads" "[I", Cond.methodLink RX2 76 yX2_handOn, Cond.instanceMethod yX2_handOn, Cond.selects RX2 yX2_handOn yX2_handOn, Cond.code yX2_handOn cX2_handOn 4 none, Cond.methodLink RX4 237 yX1_foul, Cond.instanceMethod yX1_foul, Cond.selects RX1 yX1_foul yX1_foul]
def wsX4_trainsUntil_r5 : List Cond := [Cond.code yX1_foul cX1_foul 3 none, Cond.methodLink RX1 59 Lib.Math.min.name, Cond.static Lib.Math.min.name, Cond.code Lib.Math.min.name Lib.Math.min.code 2 (some .int), Cond.methodLink RX4 240 yX4_settlement, Cond.static yX4_settlement, Cond.code yX4_settlement cX4_settlement 5 (some .int), Cond.fieldLink RX4 216 "BallastTrack$Survey" "loads" "[I", Cond.fieldLink RX4 116 "BallastTrack$State" "foulings" "[I", Cond.constantLong RX4 253 (4000000), Cond.methodLink RX4 250 yX4_shareOf, Cond.static yX4_shareOf, Cond.code yX4_shareOf cX4_shareOf 1 (some .int), Cond.methodLink RX4 244 yX1_settle, Cond.instanceMethod yX1_settle, Cond.selects RX1 yX1_settle yX1_settle, Cond.code yX1_settle cX1_settle 4 none, Cond.methodLink RX4 247 yX4_minutesLostBy, Cond.static yX4_minutesLostBy, Cond.code yX4_minutesLostBy cX4_minutesLostBy 1 (some .int)]
def wsX4_trainsUntil : List Cond := .code yX4_trainsUntil cX4_trainsUntil 5 (some .int) :: ((wsX4_trainsUntil_r1 ++ (wsX4_trainsUntil_r2 ++ (wsX4_trainsUntil_r3 ++ (wsX4_trainsUntil_r4 ++ wsX4_trainsUntil_r5)))) ++ wsX40 ++ wsX20 ++ wsX10)
def wsX4_voidsWithRow_r1 : List Cond := [Cond.fieldLink RX4 10 "BallastTrack" "now" "LBallastTrack$State;", Cond.fieldLink RX4 87 "BallastTrack$State" "levels" "[I", Cond.fieldLink RX4 25 "BallastTrack" "trial" "LBallastTrack$State;", Cond.fieldLink RX4 58 "BallastTrack$State" "sleepers" "I", Cond.methodLink RX4 228 arraycopyName, Cond.native arraycopyName, Cond.static arraycopyName, Cond.initialized "java/lang/System", Cond.fieldLink RX4 28 "BallastTrack" "trialSurvey" "LBallastTrack$Survey;", Cond.methodLink RX4 188 yX1_liftOf, Cond.instanceMethod yX1_liftOf, Cond.selects RX1 yX1_liftOf yX1_liftOf, Cond.initialized RX1, Cond.code yX1_liftOf cX1_liftOf 4 (some .int), Cond.fieldLink RX1 22 "BallastTrack$State" "levels" "[I", Cond.fieldLink RX1 18 "BallastTrack$State" "numbers" "[I", Cond.methodLink RX1 59 Lib.Math.min.name, Cond.static Lib.Math.min.name, Cond.initialized "java/lang/Math", Cond.code Lib.Math.min.name Lib.Math.min.code 2 (some .int), Cond.methodLink RX4 140 yX2_look, Cond.instanceMethod yX2_look, Cond.selects RX2 yX2_look yX2_look, Cond.initialized RX2]
def wsX4_voidsWithRow_r2 : List Cond := [Cond.code yX2_look cX2_look 1 none, Cond.fieldLink RX2 29 "BallastTrack$Survey" "worstSize" "I", Cond.fieldLink RX2 32 "BallastTrack$Survey" "order" "I", Cond.methodLink RX2 39 yX2_findHeights, Cond.instanceMethod yX2_findHeights, Cond.selects RX2 yX2_findHeights yX2_findHeights, Cond.code yX2_findHeights cX2_findHeights 4 none, Cond.fieldLink RX2 35 "BallastTrack$Survey" "track" "LBallastTrack$State;", Cond.fieldLink RX2 57 "BallastTrack$State" "numbers" "[I", Cond.fieldLink RX2 60 "BallastTrack$State" "sleepers" "I", Cond.fieldLink RX2 52 "BallastTrack$State" "levels" "[I", Cond.methodLink RX2 72 Lib.Math.max.name, Cond.static Lib.Math.max.name, Cond.code Lib.Math.max.name Lib.Math.max.code 2 (some .int), Cond.fieldLink RX2 9 "BallastTrack$Survey" "heights" "[I", Cond.methodLink RX2 42 yX2_findHanging, Cond.instanceMethod yX2_findHanging, Cond.selects RX2 yX2_findHanging yX2_findHanging, Cond.code yX2_findHanging cX2_findHanging 2 none, Cond.fieldLink RX2 22 "BallastTrack$Survey" "hangingCount" "I", Cond.fieldLink RX2 18 "BallastTrack$Survey" "hanging" "[Z", Cond.methodLink RX2 80 yX2_voidAt, Cond.instanceMethod yX2_voidAt, Cond.selects RX2 yX2_voidAt yX2_voidAt]
def wsX4_voidsWithRow_r3 : List Cond := [Cond.code yX2_voidAt cX2_voidAt 2 (some .int), Cond.methodLink RX2 45 yX2_findWorst, Cond.instanceMethod yX2_findWorst, Cond.selects RX2 yX2_findWorst yX2_findWorst, Cond.code yX2_findWorst cX2_findWorst 3 none, Cond.fieldLink RX2 26 "BallastTrack$Survey" "worst" "I", Cond.methodLink RX2 67 Lib.Math.abs.name, Cond.static Lib.Math.abs.name, Cond.code Lib.Math.abs.name Lib.Math.abs.code 1 (some .int), Cond.methodLink RX2 83 yX2_defectAt, Cond.instanceMethod yX2_defectAt, Cond.selects RX2 yX2_defectAt yX2_defectAt, Cond.code yX2_defectAt cX2_defectAt 3 (some .int), Cond.static yX4_isWithin, Cond.initialized RX4, Cond.code yX4_isWithin cX4_isWithin 3 (some .boolean), Cond.methodLink RX2 48 yX2_orderOf, Cond.instanceMethod yX2_orderOf, Cond.selects RX2 yX2_orderOf yX2_orderOf, Cond.code yX2_orderOf cX2_orderOf 2 (some .int), Cond.methodLink RX4 207 yX2_voidAt]
def wsX4_voidsWithRow : List Cond := .code yX4_voidsWithRow cX4_voidsWithRow 6 (some .int) :: ((wsX4_voidsWithRow_r1 ++ (wsX4_voidsWithRow_r2 ++ wsX4_voidsWithRow_r3)) ++ wsX40 ++ wsX10 ++ wsX20)
def wsX4_bestRow_r1 : List Cond := [Cond.fieldLink RX4 10 "BallastTrack" "now" "LBallastTrack$State;", Cond.fieldLink RX4 58 "BallastTrack$State" "sleepers" "I", Cond.methodLink RX4 191 Lib.Math.min.name, Cond.static Lib.Math.min.name, Cond.initialized "java/lang/Math", Cond.code Lib.Math.min.name Lib.Math.min.code 2 (some .int), Cond.constant RX4 57 (-100001), Cond.fieldLink RX4 25 "BallastTrack" "trial" "LBallastTrack$State;", Cond.methodLink RX4 53 yX4_isWithin, Cond.static yX4_isWithin, Cond.initialized RX4, Cond.code yX4_isWithin cX4_isWithin 3 (some .boolean), Cond.methodLink RX4 84 yX4_isLevel, Cond.static yX4_isLevel, Cond.code yX4_isLevel cX4_isLevel 1 (some .boolean), Cond.methodLink RX4 101 yX1_copyFrom, Cond.instanceMethod yX1_copyFrom, Cond.selects RX1 yX1_copyFrom yX1_copyFrom, Cond.initialized RX1, Cond.code yX1_copyFrom cX1_copyFrom 2 none, Cond.fieldLink RX1 9 "BallastTrack$State" "sleepers" "I", Cond.fieldLink RX1 15 "BallastTrack$State" "jobs" "I", Cond.fieldLink RX1 18 "BallastTrack$State" "numbers" "[I", Cond.methodLink RX1 43 arraycopyName]
def wsX4_bestRow_r2 : List Cond := [Cond.native arraycopyName, Cond.static arraycopyName, Cond.initialized "java/lang/System", Cond.fieldLink RX1 22 "BallastTrack$State" "levels" "[I", Cond.fieldLink RX1 25 "BallastTrack$State" "foulings" "[I", Cond.fieldLink RX1 28 "BallastTrack$State" "settled" "[I", Cond.fieldLink RX1 31 "BallastTrack$State" "lifted" "[I", Cond.fieldLink RX1 34 "BallastTrack$State" "jobRows" "[I", Cond.fieldLink RX1 37 "BallastTrack$State" "accounts" "[I", Cond.methodLink RX4 196 yX4_voidsWithRow, Cond.instanceMethod yX4_voidsWithRow, Cond.selects RX4 yX4_voidsWithRow yX4_voidsWithRow, Cond.code yX4_voidsWithRow cX4_voidsWithRow 6 (some .int), Cond.fieldLink RX4 87 "BallastTrack$State" "levels" "[I", Cond.methodLink RX4 228 arraycopyName, Cond.fieldLink RX4 28 "BallastTrack" "trialSurvey" "LBallastTrack$Survey;", Cond.methodLink RX4 188 yX1_liftOf, Cond.instanceMethod yX1_liftOf, Cond.selects RX1 yX1_liftOf yX1_liftOf, Cond.code yX1_liftOf cX1_liftOf 4 (some .int), Cond.methodLink RX1 59 Lib.Math.min.name, Cond.methodLink RX4 140 yX2_look, Cond.instanceMethod yX2_look, Cond.selects RX2 yX2_look yX2_look]
def wsX4_bestRow_r3 : List Cond := [Cond.initialized RX2, Cond.code yX2_look cX2_look 1 none, Cond.fieldLink RX2 29 "BallastTrack$Survey" "worstSize" "I", Cond.fieldLink RX2 32 "BallastTrack$Survey" "order" "I", Cond.methodLink RX2 39 yX2_findHeights, Cond.instanceMethod yX2_findHeights, Cond.selects RX2 yX2_findHeights yX2_findHeights, Cond.code yX2_findHeights cX2_findHeights 4 none, Cond.fieldLink RX2 35 "BallastTrack$Survey" "track" "LBallastTrack$State;", Cond.fieldLink RX2 57 "BallastTrack$State" "numbers" "[I", Cond.fieldLink RX2 60 "BallastTrack$State" "sleepers" "I", Cond.fieldLink RX2 52 "BallastTrack$State" "levels" "[I", Cond.methodLink RX2 72 Lib.Math.max.name, Cond.static Lib.Math.max.name, Cond.code Lib.Math.max.name Lib.Math.max.code 2 (some .int), Cond.fieldLink RX2 9 "BallastTrack$Survey" "heights" "[I", Cond.methodLink RX2 42 yX2_findHanging, Cond.instanceMethod yX2_findHanging, Cond.selects RX2 yX2_findHanging yX2_findHanging, Cond.code yX2_findHanging cX2_findHanging 2 none, Cond.fieldLink RX2 22 "BallastTrack$Survey" "hangingCount" "I", Cond.fieldLink RX2 18 "BallastTrack$Survey" "hanging" "[Z", Cond.methodLink RX2 80 yX2_voidAt, Cond.instanceMethod yX2_voidAt]
def wsX4_bestRow_r4 : List Cond := [Cond.selects RX2 yX2_voidAt yX2_voidAt, Cond.code yX2_voidAt cX2_voidAt 2 (some .int), Cond.methodLink RX2 45 yX2_findWorst, Cond.instanceMethod yX2_findWorst, Cond.selects RX2 yX2_findWorst yX2_findWorst, Cond.code yX2_findWorst cX2_findWorst 3 none, Cond.fieldLink RX2 26 "BallastTrack$Survey" "worst" "I", Cond.methodLink RX2 67 Lib.Math.abs.name, Cond.static Lib.Math.abs.name, Cond.code Lib.Math.abs.name Lib.Math.abs.code 1 (some .int), Cond.methodLink RX2 83 yX2_defectAt, Cond.instanceMethod yX2_defectAt, Cond.selects RX2 yX2_defectAt yX2_defectAt, Cond.code yX2_defectAt cX2_defectAt 3 (some .int), Cond.methodLink RX2 48 yX2_orderOf, Cond.instanceMethod yX2_orderOf, Cond.selects RX2 yX2_orderOf yX2_orderOf, Cond.code yX2_orderOf cX2_orderOf 2 (some .int), Cond.methodLink RX4 207 yX2_voidAt]
def wsX4_bestRow : List Cond := .code yX4_bestRow cX4_bestRow 8 (some .int) :: ((wsX4_bestRow_r1 ++ (wsX4_bestRow_r2 ++ (wsX4_bestRow_r3 ++ wsX4_bestRow_r4))) ++ wsX40 ++ wsX10 ++ wsX20)
def wsX4_minutesLeft_r1 : List Cond := [Cond.fieldLink RX4 25 "BallastTrack" "trial" "LBallastTrack$State;", Cond.fieldLink RX4 10 "BallastTrack" "now" "LBallastTrack$State;", Cond.constant RX4 200 (1000000), Cond.fieldLink RX4 150 "BallastTrack$State" "accounts" "[I", Cond.methodLink RX4 101 yX1_copyFrom, Cond.instanceMethod yX1_copyFrom, Cond.selects RX1 yX1_copyFrom yX1_copyFrom, Cond.initialized RX1, Cond.code yX1_copyFrom cX1_copyFrom 2 none, Cond.fieldLink RX1 9 "BallastTrack$State" "sleepers" "I", Cond.fieldLink RX1 15 "BallastTrack$State" "jobs" "I", Cond.fieldLink RX1 18 "BallastTrack$State" "numbers" "[I", Cond.methodLink RX1 43 arraycopyName, Cond.native arraycopyName, Cond.static arraycopyName, Cond.initialized "java/lang/System", Cond.fieldLink RX1 22 "BallastTrack$State" "levels" "[I", Cond.fieldLink RX1 25 "BallastTrack$State" "foulings" "[I", Cond.fieldLink RX1 28 "BallastTrack$State" "settled" "[I", Cond.fieldLink RX1 31 "BallastTrack$State" "lifted" "[I", Cond.fieldLink RX1 34 "BallastTrack$State" "jobRows" "[I", Cond.fieldLink RX1 37 "BallastTrack$State" "accounts" "[I", Cond.methodLink RX4 134 yX1_tamp, Cond.instanceMethod yX1_tamp]
def wsX4_minutesLeft_r2 : List Cond := [Cond.selects RX1 yX1_tamp yX1_tamp, Cond.code yX1_tamp cX1_tamp 7 (some .int), Cond.methodLink RX1 69 yX1_jobValue, Cond.instanceMethod yX1_jobValue, Cond.selects RX1 yX1_jobValue yX1_jobValue, Cond.code yX1_jobValue cX1_jobValue 3 (some .int), Cond.methodLink RX1 72 yX1_liftOf, Cond.instanceMethod yX1_liftOf, Cond.selects RX1 yX1_liftOf yX1_liftOf, Cond.code yX1_liftOf cX1_liftOf 4 (some .int), Cond.methodLink RX1 59 Lib.Math.min.name, Cond.static Lib.Math.min.name, Cond.initialized "java/lang/Math", Cond.code Lib.Math.min.name Lib.Math.min.code 2 (some .int), Cond.static yX4_minutesFor, Cond.initialized RX4, Cond.code yX4_minutesFor cX4_minutesFor 1 (some .int), Cond.methodLink RX1 79 yX1_raise, Cond.instanceMethod yX1_raise, Cond.selects RX1 yX1_raise yX1_raise, Cond.code yX1_raise cX1_raise 3 none, Cond.methodLink RX1 65 yX1_foul, Cond.instanceMethod yX1_foul, Cond.selects RX1 yX1_foul yX1_foul]
def wsX4_minutesLeft_r3 : List Cond := [Cond.code yX1_foul cX1_foul 3 none, Cond.methodLink RX1 82 yX1_goOn, Cond.instanceMethod yX1_goOn, Cond.selects RX1 yX1_goOn yX1_goOn, Cond.code yX1_goOn cX1_goOn 1 none, Cond.methodLink RX1 85 yX1_removeJob, Cond.instanceMethod yX1_removeJob, Cond.selects RX1 yX1_removeJob yX1_removeJob, Cond.code yX1_removeJob cX1_removeJob 3 none]
def wsX4_minutesLeft : List Cond := .code yX4_minutesLeft cX4_minutesLeft 1 (some .int) :: ((wsX4_minutesLeft_r1 ++ (wsX4_minutesLeft_r2 ++ wsX4_minutesLeft_r3)) ++ wsX40 ++ wsX10)
def wsX5_init : List Cond := .code yX5_init cX5_init 1 none :: ([.methodLink RX5 1 objectInit, .instanceMethod objectInit, .code objectInit ⟨#[0xb1]⟩ 1 none, .arrayClass .int, .fieldLink RX5 7 "BallastTrackModel" "s" "[I", .fieldLink RX5 13 "BallastTrackModel" "past" "[I", .fieldLink RX5 16 "BallastTrackModel" "images" "[I", .fieldLink RX5 19 "BallastTrackModel" "aside" "[I", .arrayClass .byte, .fieldLink RX5 22 "BallastTrackModel" "text" "[B", .fieldLink RX5 26 "BallastTrackModel" "rail" "[I", .fieldLink RX5 29 "BallastTrackModel" "load" "[I"] ++ wsX50)
def wsX5_in : List Cond := .code yX5_in cX5_in 3 (some .boolean) :: ([])
def wsX5_lesser : List Cond := .code yX5_lesser cX5_lesser 2 (some .int) :: ([])
def wsX5_greater : List Cond := .code yX5_greater cX5_greater 2 (some .int) :: ([])
def wsX5_size : List Cond := .code yX5_size cX5_size 1 (some .int) :: ([])
def wsX5_notes : List Cond := .code yX5_notes cX5_notes 2 none :: ([.fieldLink RX5 32 "BallastTrackModel" "pasts" "I", .fieldLink RX5 13 "BallastTrackModel" "past" "[I", .fieldLink RX5 7 "BallastTrackModel" "s" "[I"] ++ wsX50)
def wsX5_undo : List Cond := .code yX5_undo cX5_undo 2 (some .int) :: ([.fieldLink RX5 32 "BallastTrackModel" "pasts" "I", .constant RX5 36 (-100002), .fieldLink RX5 7 "BallastTrackModel" "s" "[I", .fieldLink RX5 13 "BallastTrackModel" "past" "[I"] ++ wsX50)
def wsX5_putAside : List Cond := .code yX5_putAside cX5_putAside 2 none :: ([.fieldLink RX5 19 "BallastTrackModel" "aside" "[I", .fieldLink RX5 7 "BallastTrackModel" "s" "[I"] ++ wsX50)
def wsX5_putBack : List Cond := .code yX5_putBack cX5_putBack 2 none :: ([.fieldLink RX5 7 "BallastTrackModel" "s" "[I", .fieldLink RX5 19 "BallastTrackModel" "aside" "[I"] ++ wsX50)
def wsX5_isSleeper : List Cond := .code yX5_isSleeper cX5_isSleeper 2 (some .boolean) :: ([.fieldLink RX5 7 "BallastTrackModel" "s" "[I", .methodLink RX5 37 yX5_in, .static yX5_in, .initialized RX5, .code yX5_in cX5_in 3 (some .boolean)] ++ wsX50)
def wsX5_isLevel : List Cond := .code yX5_isLevel cX5_isLevel 1 (some .boolean) :: ([.methodLink RX5 37 yX5_in, .static yX5_in, .initialized RX5, .code yX5_in cX5_in 3 (some .boolean)])
def wsX5_laysRail : List Cond := .code yX5_laysRail cX5_laysRail 3 none :: ([.fieldLink RX5 7 "BallastTrackModel" "s" "[I", .fieldLink RX5 26 "BallastTrackModel" "rail" "[I", .methodLink RX5 41 yX5_size, .static yX5_size, .initialized RX5, .code yX5_size cX5_size 1 (some .int), .methodLink RX5 45 yX5_greater, .static yX5_greater, .code yX5_greater cX5_greater 2 (some .int)] ++ wsX50)
def wsX5_voidAt : List Cond := .code yX5_voidAt cX5_voidAt 2 (some .int) :: ([.fieldLink RX5 26 "BallastTrackModel" "rail" "[I", .fieldLink RX5 7 "BallastTrackModel" "s" "[I"] ++ wsX50)
def wsX5_hangs : List Cond := .code yX5_hangs cX5_hangs 2 (some .boolean) :: ([.fieldLink RX5 7 "BallastTrackModel" "s" "[I", .methodLink RX5 49 yX5_voidAt, .instanceMethod yX5_voidAt, .selects RX5 yX5_voidAt yX5_voidAt, .initialized RX5, .code yX5_voidAt cX5_voidAt 2 (some .int), .fieldLink RX5 26 "BallastTrackModel" "rail" "[I"] ++ wsX50)
def wsX5_defect : List Cond := .code yX5_defect cX5_defect 3 (some .int) :: ([.fieldLink RX5 7 "BallastTrackModel" "s" "[I", .fieldLink RX5 26 "BallastTrackModel" "rail" "[I"] ++ wsX50)
def wsX5_orderAt : List Cond := .code yX5_orderAt cX5_orderAt 5 (some .int) :: ([.fieldLink RX5 7 "BallastTrackModel" "s" "[I", .methodLink RX5 52 yX5_defect, .instanceMethod yX5_defect, .selects RX5 yX5_defect yX5_defect, .initialized RX5, .code yX5_defect cX5_defect 3 (some .int), .fieldLink RX5 26 "BallastTrackModel" "rail" "[I", .methodLink RX5 41 yX5_size, .static yX5_size, .code yX5_size cX5_size 1 (some .int)] ++ wsX50)
def wsX5_order : List Cond := .code yX5_order cX5_order 3 (some .int) :: ([.fieldLink RX5 7 "BallastTrackModel" "s" "[I", .methodLink RX5 55 yX5_orderAt, .instanceMethod yX5_orderAt, .selects RX5 yX5_orderAt yX5_orderAt, .initialized RX5, .code yX5_orderAt cX5_orderAt 5 (some .int), .methodLink RX5 52 yX5_defect, .instanceMethod yX5_defect, .selects RX5 yX5_defect yX5_defect, .code yX5_defect cX5_defect 3 (some .int), .fieldLink RX5 26 "BallastTrackModel" "rail" "[I", .methodLink RX5 41 yX5_size, .static yX5_size, .code yX5_size cX5_size 1 (some .int), .methodLink RX5 45 yX5_greater, .static yX5_greater, .code yX5_greater cX5_greater 2 (some .int)] ++ wsX50)
def wsX5_nearest : List Cond := .code yX5_nearest cX5_nearest 4 (some .int) :: ([.methodLink RX5 58 yX5_isSleeper, .instanceMethod yX5_isSleeper, .selects RX5 yX5_isSleeper yX5_isSleeper, .initialized RX5, .code yX5_isSleeper cX5_isSleeper 2 (some .boolean), .fieldLink RX5 7 "BallastTrackModel" "s" "[I", .methodLink RX5 37 yX5_in, .static yX5_in, .code yX5_in cX5_in 3 (some .boolean), .methodLink RX5 62 yX5_hangs, .instanceMethod yX5_hangs, .selects RX5 yX5_hangs yX5_hangs, .code yX5_hangs cX5_hangs 2 (some .boolean), .methodLink RX5 49 yX5_voidAt, .instanceMethod yX5_voidAt, .selects RX5 yX5_voidAt yX5_voidAt, .code yX5_voidAt cX5_voidAt 2 (some .int), .fieldLink RX5 26 "BallastTrackModel" "rail" "[I"] ++ wsX50)
def wsX5_laysLoads : List Cond := .code yX5_laysLoads cX5_laysLoads 4 none :: ([.fieldLink RX5 7 "BallastTrackModel" "s" "[I", .fieldLink RX5 29 "BallastTrackModel" "load" "[I", .methodLink RX5 62 yX5_hangs, .instanceMethod yX5_hangs, .selects RX5 yX5_hangs yX5_hangs, .initialized RX5, .code yX5_hangs cX5_hangs 2 (some .boolean), .methodLink RX5 49 yX5_voidAt, .instanceMethod yX5_voidAt, .selects RX5 yX5_voidAt yX5_voidAt, .code yX5_voidAt cX5_voidAt 2 (some .int), .fieldLink RX5 26 "BallastTrackModel" "rail" "[I", .methodLink RX5 65 yX5_nearest, .instanceMethod yX5_nearest, .selects RX5 yX5_nearest yX5_nearest, .code yX5_nearest cX5_nearest 4 (some .int), .methodLink RX5 58 yX5_isSleeper, .instanceMethod yX5_isSleeper, .selects RX5 yX5_isSleeper yX5_isSleeper, .code yX5_isSleeper cX5_isSleeper 2 (some .boolean), .methodLink RX5 37 yX5_in, .static yX5_in, .code yX5_in cX5_in 3 (some .boolean)] ++ wsX50)
def wsX5_begin : List Cond := .code yX5_begin cX5_begin 4 (some .int) :: ([.constant RX5 68 (-100001), .fieldLink RX5 7 "BallastTrackModel" "s" "[I", .methodLink RX5 37 yX5_in, .static yX5_in, .initialized RX5, .code yX5_in cX5_in 3 (some .boolean), .methodLink RX5 69 yX5_notes, .instanceMethod yX5_notes, .selects RX5 yX5_notes yX5_notes, .code yX5_notes cX5_notes 2 none, .fieldLink RX5 32 "BallastTrackModel" "pasts" "I", .fieldLink RX5 13 "BallastTrackModel" "past" "[I"] ++ wsX50)
def wsX5_isNumber : List Cond := .code yX5_isNumber cX5_isNumber 3 (some .boolean) :: ([.fieldLink RX5 7 "BallastTrackModel" "s" "[I", .methodLink RX5 37 yX5_in, .static yX5_in, .initialized RX5, .code yX5_in cX5_in 3 (some .boolean)] ++ wsX50)
def wsX5_setNumber : List Cond := .code yX5_setNumber cX5_setNumber 4 (some .int) :: ([.constant RX5 68 (-100001), .fieldLink RX5 7 "BallastTrackModel" "s" "[I", .methodLink RX5 72 yX5_isNumber, .instanceMethod yX5_isNumber, .selects RX5 yX5_isNumber yX5_isNumber, .initialized RX5, .code yX5_isNumber cX5_isNumber 3 (some .boolean), .methodLink RX5 37 yX5_in, .static yX5_in, .code yX5_in cX5_in 3 (some .boolean), .methodLink RX5 69 yX5_notes, .instanceMethod yX5_notes, .selects RX5 yX5_notes yX5_notes, .code yX5_notes cX5_notes 2 none, .fieldLink RX5 32 "BallastTrackModel" "pasts" "I", .fieldLink RX5 13 "BallastTrackModel" "past" "[I"] ++ wsX50)
def wsX5_puts : List Cond := .code yX5_puts cX5_puts 3 none :: ([.fieldLink RX5 7 "BallastTrackModel" "s" "[I"] ++ wsX50)
def wsX5_setLevel : List Cond := .code yX5_setLevel cX5_setLevel 4 (some .int) :: ([.constant RX5 68 (-100001), .fieldLink RX5 7 "BallastTrackModel" "s" "[I", .methodLink RX5 58 yX5_isSleeper, .instanceMethod yX5_isSleeper, .selects RX5 yX5_isSleeper yX5_isSleeper, .initialized RX5, .code yX5_isSleeper cX5_isSleeper 2 (some .boolean), .methodLink RX5 37 yX5_in, .static yX5_in, .code yX5_in cX5_in 3 (some .boolean), .methodLink RX5 76 yX5_isLevel, .static yX5_isLevel, .code yX5_isLevel cX5_isLevel 1 (some .boolean), .methodLink RX5 69 yX5_notes, .instanceMethod yX5_notes, .selects RX5 yX5_notes yX5_notes, .code yX5_notes cX5_notes 2 none, .fieldLink RX5 32 "BallastTrackModel" "pasts" "I", .fieldLink RX5 13 "BallastTrackModel" "past" "[I", .methodLink RX5 79 yX5_puts, .instanceMethod yX5_puts, .selects RX5 yX5_puts yX5_puts, .code yX5_puts cX5_puts 3 none] ++ wsX50)
def wsX5_appendCharacter : List Cond := .code yX5_appendCharacter cX5_appendCharacter 2 (some .int) :: ([.constant RX5 68 (-100001), .fieldLink RX5 83 "BallastTrackModel" "typed" "I", .constant RX5 86 (-100003), .fieldLink RX5 22 "BallastTrackModel" "text" "[B", .methodLink RX5 37 yX5_in, .static yX5_in, .initialized RX5, .code yX5_in cX5_in 3 (some .boolean)] ++ wsX50)
def wsX5_clearText : List Cond := .code yX5_clearText cX5_clearText 2 (some .int) :: ([.fieldLink RX5 83 "BallastTrackModel" "typed" "I"] ++ wsX50)
def wsX5_here : List Cond := .code yX5_here cX5_here 1 (some .int) :: ([.fieldLink RX5 87 "BallastTrackModel" "at" "I", .fieldLink RX5 83 "BallastTrackModel" "typed" "I", .fieldLink RX5 22 "BallastTrackModel" "text" "[B"] ++ wsX50)
def wsX5_takes : List Cond := .code yX5_takes cX5_takes 3 (some .boolean) :: ([.fieldLink RX5 87 "BallastTrackModel" "at" "I", .methodLink RX5 90 yX5_here, .instanceMethod yX5_here, .selects RX5 yX5_here yX5_here, .initialized RX5, .code yX5_here cX5_here 1 (some .int), .fieldLink RX5 83 "BallastTrackModel" "typed" "I", .fieldLink RX5 22 "BallastTrackModel" "text" "[B"] ++ wsX50)
def wsX5_reads : List Cond := .code yX5_reads cX5_reads 5 (some .boolean) :: ([.fieldLink RX5 87 "BallastTrackModel" "at" "I", .fieldLink RX5 94 "BallastTrackModel" "number" "I", .fieldLink RX5 83 "BallastTrackModel" "typed" "I", .fieldLink RX5 22 "BallastTrackModel" "text" "[B", .methodLink RX5 90 yX5_here, .instanceMethod yX5_here, .selects RX5 yX5_here yX5_here, .initialized RX5, .code yX5_here cX5_here 1 (some .int), .methodLink RX5 37 yX5_in, .static yX5_in, .code yX5_in cX5_in 3 (some .boolean)] ++ wsX50)
def wsX5_readsItem_r1 : List Cond := [Cond.fieldLink RX5 87 "BallastTrackModel" "at" "I", Cond.fieldLink RX5 7 "BallastTrackModel" "s" "[I", Cond.fieldLink RX5 94 "BallastTrackModel" "number" "I", Cond.methodLink RX5 90 yX5_here, Cond.instanceMethod yX5_here, Cond.selects RX5 yX5_here yX5_here, Cond.initialized RX5, Cond.code yX5_here cX5_here 1 (some .int), Cond.fieldLink RX5 83 "BallastTrackModel" "typed" "I", Cond.fieldLink RX5 22 "BallastTrackModel" "text" "[B", Cond.methodLink RX5 97 yX5_reads, Cond.instanceMethod yX5_reads, Cond.selects RX5 yX5_reads yX5_reads, Cond.code yX5_reads cX5_reads 5 (some .boolean), Cond.methodLink RX5 37 yX5_in, Cond.static yX5_in, Cond.code yX5_in cX5_in 3 (some .boolean), Cond.methodLink RX5 100 yX5_takes, Cond.instanceMethod yX5_takes, Cond.selects RX5 yX5_takes yX5_takes, Cond.code yX5_takes cX5_takes 3 (some .boolean), Cond.methodLink RX5 79 yX5_puts, Cond.instanceMethod yX5_puts, Cond.selects RX5 yX5_puts yX5_puts]
def wsX5_readsItem_r2 : List Cond := [Cond.code yX5_puts cX5_puts 3 none]
def wsX5_readsItem : List Cond := .code yX5_readsItem cX5_readsItem 7 (some .boolean) :: ((wsX5_readsItem_r1 ++ wsX5_readsItem_r2) ++ wsX50)
def wsX5_load_r1 : List Cond := [Cond.fieldLink RX5 87 "BallastTrackModel" "at" "I", Cond.fieldLink RX5 7 "BallastTrackModel" "s" "[I", Cond.fieldLink RX5 19 "BallastTrackModel" "aside" "[I", Cond.constant RX5 110 (-200000), Cond.fieldLink RX5 83 "BallastTrackModel" "typed" "I", Cond.methodLink RX5 103 yX5_putAside, Cond.instanceMethod yX5_putAside, Cond.selects RX5 yX5_putAside yX5_putAside, Cond.initialized RX5, Cond.code yX5_putAside cX5_putAside 2 none, Cond.methodLink RX5 90 yX5_here, Cond.instanceMethod yX5_here, Cond.selects RX5 yX5_here yX5_here, Cond.code yX5_here cX5_here 1 (some .int), Cond.fieldLink RX5 22 "BallastTrackModel" "text" "[B", Cond.methodLink RX5 106 yX5_readsItem, Cond.instanceMethod yX5_readsItem, Cond.selects RX5 yX5_readsItem yX5_readsItem, Cond.code yX5_readsItem cX5_readsItem 7 (some .boolean), Cond.fieldLink RX5 94 "BallastTrackModel" "number" "I", Cond.methodLink RX5 97 yX5_reads, Cond.instanceMethod yX5_reads, Cond.selects RX5 yX5_reads yX5_reads, Cond.code yX5_reads cX5_reads 5 (some .boolean)]
def wsX5_load_r2 : List Cond := [Cond.methodLink RX5 37 yX5_in, Cond.static yX5_in, Cond.code yX5_in cX5_in 3 (some .boolean), Cond.methodLink RX5 100 yX5_takes, Cond.instanceMethod yX5_takes, Cond.selects RX5 yX5_takes yX5_takes, Cond.code yX5_takes cX5_takes 3 (some .boolean), Cond.methodLink RX5 79 yX5_puts, Cond.instanceMethod yX5_puts, Cond.selects RX5 yX5_puts yX5_puts, Cond.code yX5_puts cX5_puts 3 none, Cond.methodLink RX5 69 yX5_notes, Cond.instanceMethod yX5_notes, Cond.selects RX5 yX5_notes yX5_notes, Cond.code yX5_notes cX5_notes 2 none, Cond.fieldLink RX5 32 "BallastTrackModel" "pasts" "I", Cond.fieldLink RX5 13 "BallastTrackModel" "past" "[I", Cond.methodLink RX5 111 yX5_putBack, Cond.instanceMethod yX5_putBack, Cond.selects RX5 yX5_putBack yX5_putBack, Cond.code yX5_putBack cX5_putBack 2 none]
def wsX5_load : List Cond := .code yX5_load cX5_load 5 (some .int) :: ((wsX5_load_r1 ++ wsX5_load_r2) ++ wsX50)
def wsX5_renew : List Cond := .code yX5_renew cX5_renew 5 (some .int) :: ([.fieldLink RX5 7 "BallastTrackModel" "s" "[I", .constant RX5 68 (-100001), .methodLink RX5 58 yX5_isSleeper, .instanceMethod yX5_isSleeper, .selects RX5 yX5_isSleeper yX5_isSleeper, .initialized RX5, .code yX5_isSleeper cX5_isSleeper 2 (some .boolean), .methodLink RX5 37 yX5_in, .static yX5_in, .code yX5_in cX5_in 3 (some .boolean), .methodLink RX5 69 yX5_notes, .instanceMethod yX5_notes, .selects RX5 yX5_notes yX5_notes, .code yX5_notes cX5_notes 2 none, .fieldLink RX5 32 "BallastTrackModel" "pasts" "I", .fieldLink RX5 13 "BallastTrackModel" "past" "[I"] ++ wsX50)
def wsX5_jobOf : List Cond := .code yX5_jobOf cX5_jobOf 3 (some .int) :: ([.fieldLink RX5 7 "BallastTrackModel" "s" "[I"] ++ wsX50)
def wsX5_addJob : List Cond := .code yX5_addJob cX5_addJob 5 (some .int) :: ([.fieldLink RX5 7 "BallastTrackModel" "s" "[I", .constant RX5 68 (-100001), .constant RX5 86 (-100003), .methodLink RX5 58 yX5_isSleeper, .instanceMethod yX5_isSleeper, .selects RX5 yX5_isSleeper yX5_isSleeper, .initialized RX5, .code yX5_isSleeper cX5_isSleeper 2 (some .boolean), .methodLink RX5 37 yX5_in, .static yX5_in, .code yX5_in cX5_in 3 (some .boolean), .methodLink RX5 76 yX5_isLevel, .static yX5_isLevel, .code yX5_isLevel cX5_isLevel 1 (some .boolean), .methodLink RX5 69 yX5_notes, .instanceMethod yX5_notes, .selects RX5 yX5_notes yX5_notes, .code yX5_notes cX5_notes 2 none, .fieldLink RX5 32 "BallastTrackModel" "pasts" "I", .fieldLink RX5 13 "BallastTrackModel" "past" "[I"] ++ wsX50)
def wsX5_drops : List Cond := .code yX5_drops cX5_drops 3 none :: ([.fieldLink RX5 7 "BallastTrackModel" "s" "[I"] ++ wsX50)
def wsX5_cancelJobs : List Cond := .code yX5_cancelJobs cX5_cancelJobs 4 (some .int) :: ([.constant RX5 68 (-100001), .fieldLink RX5 7 "BallastTrackModel" "s" "[I", .methodLink RX5 58 yX5_isSleeper, .instanceMethod yX5_isSleeper, .selects RX5 yX5_isSleeper yX5_isSleeper, .initialized RX5, .code yX5_isSleeper cX5_isSleeper 2 (some .boolean), .methodLink RX5 37 yX5_in, .static yX5_in, .code yX5_in cX5_in 3 (some .boolean), .methodLink RX5 69 yX5_notes, .instanceMethod yX5_notes, .selects RX5 yX5_notes yX5_notes, .code yX5_notes cX5_notes 2 none, .fieldLink RX5 32 "BallastTrackModel" "pasts" "I", .fieldLink RX5 13 "BallastTrackModel" "past" "[I", .methodLink RX5 114 yX5_jobOf, .instanceMethod yX5_jobOf, .selects RX5 yX5_jobOf yX5_jobOf, .code yX5_jobOf cX5_jobOf 3 (some .int), .methodLink RX5 117 yX5_drops, .instanceMethod yX5_drops, .selects RX5 yX5_drops yX5_drops, .code yX5_drops cX5_drops 3 none] ++ wsX50)
def wsX5_liftOf : List Cond := .code yX5_liftOf cX5_liftOf 3 (some .int) :: ([.fieldLink RX5 7 "BallastTrackModel" "s" "[I", .methodLink RX5 121 yX5_lesser, .static yX5_lesser, .initialized RX5, .code yX5_lesser cX5_lesser 2 (some .int)] ++ wsX50)
def wsX5_minutesFor : List Cond := .code yX5_minutesFor cX5_minutesFor 1 (some .int) :: ([])
def wsX5_lift : List Cond := .code yX5_lift cX5_lift 3 none :: ([.fieldLink RX5 7 "BallastTrackModel" "s" "[I", .methodLink RX5 121 yX5_lesser, .static yX5_lesser, .initialized RX5, .code yX5_lesser cX5_lesser 2 (some .int)] ++ wsX50)
def wsX5_works : List Cond := .code yX5_works cX5_works 8 (some .int) :: ([.fieldLink RX5 7 "BallastTrackModel" "s" "[I", .methodLink RX5 114 yX5_jobOf, .instanceMethod yX5_jobOf, .selects RX5 yX5_jobOf yX5_jobOf, .initialized RX5, .code yX5_jobOf cX5_jobOf 3 (some .int), .methodLink RX5 124 yX5_liftOf, .instanceMethod yX5_liftOf, .selects RX5 yX5_liftOf yX5_liftOf, .code yX5_liftOf cX5_liftOf 3 (some .int), .methodLink RX5 121 yX5_lesser, .static yX5_lesser, .code yX5_lesser cX5_lesser 2 (some .int), .methodLink RX5 127 yX5_minutesFor, .static yX5_minutesFor, .code yX5_minutesFor cX5_minutesFor 1 (some .int), .methodLink RX5 130 yX5_lift, .instanceMethod yX5_lift, .selects RX5 yX5_lift yX5_lift, .code yX5_lift cX5_lift 3 none, .methodLink RX5 117 yX5_drops, .instanceMethod yX5_drops, .selects RX5 yX5_drops yX5_drops, .code yX5_drops cX5_drops 3 none] ++ wsX50)
def wsX5_work_r1 : List Cond := [Cond.constant RX5 68 (-100001), Cond.fieldLink RX5 7 "BallastTrackModel" "s" "[I", Cond.constant RX5 36 (-100002), Cond.methodLink RX5 37 yX5_in, Cond.static yX5_in, Cond.initialized RX5, Cond.code yX5_in cX5_in 3 (some .boolean), Cond.methodLink RX5 69 yX5_notes, Cond.instanceMethod yX5_notes, Cond.selects RX5 yX5_notes yX5_notes, Cond.code yX5_notes cX5_notes 2 none, Cond.fieldLink RX5 32 "BallastTrackModel" "pasts" "I", Cond.fieldLink RX5 13 "BallastTrackModel" "past" "[I", Cond.methodLink RX5 133 yX5_works, Cond.instanceMethod yX5_works, Cond.selects RX5 yX5_works yX5_works, Cond.code yX5_works cX5_works 8 (some .int), Cond.methodLink RX5 114 yX5_jobOf, Cond.instanceMethod yX5_jobOf, Cond.selects RX5 yX5_jobOf yX5_jobOf, Cond.code yX5_jobOf cX5_jobOf 3 (some .int), Cond.methodLink RX5 124 yX5_liftOf, Cond.instanceMethod yX5_liftOf, Cond.selects RX5 yX5_liftOf yX5_liftOf]
def wsX5_work_r2 : List Cond := [Cond.code yX5_liftOf cX5_liftOf 3 (some .int), Cond.methodLink RX5 121 yX5_lesser, Cond.static yX5_lesser, Cond.code yX5_lesser cX5_lesser 2 (some .int), Cond.methodLink RX5 127 yX5_minutesFor, Cond.static yX5_minutesFor, Cond.code yX5_minutesFor cX5_minutesFor 1 (some .int), Cond.methodLink RX5 130 yX5_lift, Cond.instanceMethod yX5_lift, Cond.selects RX5 yX5_lift yX5_lift, Cond.code yX5_lift cX5_lift 3 none, Cond.methodLink RX5 117 yX5_drops, Cond.instanceMethod yX5_drops, Cond.selects RX5 yX5_drops yX5_drops, Cond.code yX5_drops cX5_drops 3 none]
def wsX5_work : List Cond := .code yX5_work cX5_work 2 (some .int) :: ((wsX5_work_r1 ++ wsX5_work_r2) ++ wsX50)
def wsX5_passes_r1 : List Cond := [Cond.fieldLink RX5 7 "BallastTrackModel" "s" "[I", Cond.fieldLink RX5 29 "BallastTrackModel" "load" "[I", Cond.constantLong RX5 139 (4000000), Cond.constantLong RX5 141 (-9999), Cond.methodLink RX5 136 yX5_laysLoads, Cond.instanceMethod yX5_laysLoads, Cond.selects RX5 yX5_laysLoads yX5_laysLoads, Cond.initialized RX5, Cond.code yX5_laysLoads cX5_laysLoads 4 none, Cond.methodLink RX5 62 yX5_hangs, Cond.instanceMethod yX5_hangs, Cond.selects RX5 yX5_hangs yX5_hangs, Cond.code yX5_hangs cX5_hangs 2 (some .boolean), Cond.methodLink RX5 49 yX5_voidAt, Cond.instanceMethod yX5_voidAt, Cond.selects RX5 yX5_voidAt yX5_voidAt, Cond.code yX5_voidAt cX5_voidAt 2 (some .int), Cond.fieldLink RX5 26 "BallastTrackModel" "rail" "[I", Cond.methodLink RX5 65 yX5_nearest, Cond.instanceMethod yX5_nearest, Cond.selects RX5 yX5_nearest yX5_nearest, Cond.code yX5_nearest cX5_nearest 4 (some .int), Cond.methodLink RX5 58 yX5_isSleeper, Cond.instanceMethod yX5_isSleeper]
def wsX5_passes_r2 : List Cond := [Cond.selects RX5 yX5_isSleeper yX5_isSleeper, Cond.code yX5_isSleeper cX5_isSleeper 2 (some .boolean), Cond.methodLink RX5 37 yX5_in, Cond.static yX5_in, Cond.code yX5_in cX5_in 3 (some .boolean), Cond.methodLink RX5 121 yX5_lesser, Cond.static yX5_lesser, Cond.code yX5_lesser cX5_lesser 2 (some .int), Cond.methodLink RX5 143 yX5_laysRail, Cond.instanceMethod yX5_laysRail, Cond.selects RX5 yX5_laysRail yX5_laysRail, Cond.code yX5_laysRail cX5_laysRail 3 none, Cond.methodLink RX5 41 yX5_size, Cond.static yX5_size, Cond.code yX5_size cX5_size 1 (some .int), Cond.methodLink RX5 45 yX5_greater, Cond.static yX5_greater, Cond.code yX5_greater cX5_greater 2 (some .int)]
def wsX5_passes : List Cond := .code yX5_passes cX5_passes 11 none :: ((wsX5_passes_r1 ++ wsX5_passes_r2) ++ wsX50)
def wsX5_isTrain : List Cond := .code yX5_isTrain cX5_isTrain 2 (some .boolean) :: ([.methodLink RX5 37 yX5_in, .static yX5_in, .initialized RX5, .code yX5_in cX5_in 3 (some .boolean)])
def wsX5_trains_r1 : List Cond := [Cond.constant RX5 68 (-100001), Cond.constant RX5 36 (-100002), Cond.methodLink RX5 146 yX5_isTrain, Cond.static yX5_isTrain, Cond.initialized RX5, Cond.code yX5_isTrain cX5_isTrain 2 (some .boolean), Cond.methodLink RX5 37 yX5_in, Cond.static yX5_in, Cond.code yX5_in cX5_in 3 (some .boolean), Cond.methodLink RX5 143 yX5_laysRail, Cond.instanceMethod yX5_laysRail, Cond.selects RX5 yX5_laysRail yX5_laysRail, Cond.code yX5_laysRail cX5_laysRail 3 none, Cond.fieldLink RX5 7 "BallastTrackModel" "s" "[I", Cond.fieldLink RX5 26 "BallastTrackModel" "rail" "[I", Cond.methodLink RX5 41 yX5_size, Cond.static yX5_size, Cond.code yX5_size cX5_size 1 (some .int), Cond.methodLink RX5 45 yX5_greater, Cond.static yX5_greater, Cond.code yX5_greater cX5_greater 2 (some .int), Cond.methodLink RX5 149 yX5_order, Cond.instanceMethod yX5_order, Cond.selects RX5 yX5_order yX5_order]
def wsX5_trains_r2 : List Cond := [Cond.code yX5_order cX5_order 3 (some .int), Cond.methodLink RX5 55 yX5_orderAt, Cond.instanceMethod yX5_orderAt, Cond.selects RX5 yX5_orderAt yX5_orderAt, Cond.code yX5_orderAt cX5_orderAt 5 (some .int), Cond.methodLink RX5 52 yX5_defect, Cond.instanceMethod yX5_defect, Cond.selects RX5 yX5_defect yX5_defect, Cond.code yX5_defect cX5_defect 3 (some .int), Cond.methodLink RX5 69 yX5_notes, Cond.instanceMethod yX5_notes, Cond.selects RX5 yX5_notes yX5_notes, Cond.code yX5_notes cX5_notes 2 none, Cond.fieldLink RX5 32 "BallastTrackModel" "pasts" "I", Cond.fieldLink RX5 13 "BallastTrackModel" "past" "[I", Cond.methodLink RX5 152 yX5_passes, Cond.instanceMethod yX5_passes, Cond.selects RX5 yX5_passes yX5_passes, Cond.code yX5_passes cX5_passes 11 none, Cond.fieldLink RX5 29 "BallastTrackModel" "load" "[I", Cond.constantLong RX5 139 (4000000), Cond.constantLong RX5 141 (-9999), Cond.methodLink RX5 136 yX5_laysLoads, Cond.instanceMethod yX5_laysLoads]
def wsX5_trains_r3 : List Cond := [Cond.selects RX5 yX5_laysLoads yX5_laysLoads, Cond.code yX5_laysLoads cX5_laysLoads 4 none, Cond.methodLink RX5 62 yX5_hangs, Cond.instanceMethod yX5_hangs, Cond.selects RX5 yX5_hangs yX5_hangs, Cond.code yX5_hangs cX5_hangs 2 (some .boolean), Cond.methodLink RX5 49 yX5_voidAt, Cond.instanceMethod yX5_voidAt, Cond.selects RX5 yX5_voidAt yX5_voidAt, Cond.code yX5_voidAt cX5_voidAt 2 (some .int), Cond.methodLink RX5 65 yX5_nearest, Cond.instanceMethod yX5_nearest, Cond.selects RX5 yX5_nearest yX5_nearest, Cond.code yX5_nearest cX5_nearest 4 (some .int), Cond.methodLink RX5 58 yX5_isSleeper, Cond.instanceMethod yX5_isSleeper, Cond.selects RX5 yX5_isSleeper yX5_isSleeper, Cond.code yX5_isSleeper cX5_isSleeper 2 (some .boolean), Cond.methodLink RX5 121 yX5_lesser, Cond.static yX5_lesser, Cond.code yX5_lesser cX5_lesser 2 (some .int)]
def wsX5_trains : List Cond := .code yX5_trains cX5_trains 6 (some .int) :: ((wsX5_trains_r1 ++ (wsX5_trains_r2 ++ wsX5_trains_r3)) ++ wsX50)
def wsX5_isImage : List Cond := .code yX5_isImage cX5_isImage 1 (some .boolean) :: ([.methodLink RX5 37 yX5_in, .static yX5_in, .initialized RX5, .code yX5_in cX5_in 3 (some .boolean)])
def wsX5_keep : List Cond := .code yX5_keep cX5_keep 3 (some .int) :: ([.constant RX5 68 (-100001), .fieldLink RX5 16 "BallastTrackModel" "images" "[I", .fieldLink RX5 7 "BallastTrackModel" "s" "[I", .fieldLink RX5 159 "BallastTrackModel" "kept" "I", .methodLink RX5 156 yX5_isImage, .static yX5_isImage, .initialized RX5, .code yX5_isImage cX5_isImage 1 (some .boolean), .methodLink RX5 37 yX5_in, .static yX5_in, .code yX5_in cX5_in 3 (some .boolean)] ++ wsX50)
def wsX5_back : List Cond := .code yX5_back cX5_back 3 (some .int) :: ([.constant RX5 68 (-100001), .fieldLink RX5 159 "BallastTrackModel" "kept" "I", .constant RX5 36 (-100002), .fieldLink RX5 7 "BallastTrackModel" "s" "[I", .fieldLink RX5 16 "BallastTrackModel" "images" "[I", .methodLink RX5 156 yX5_isImage, .static yX5_isImage, .initialized RX5, .code yX5_isImage cX5_isImage 1 (some .boolean), .methodLink RX5 37 yX5_in, .static yX5_in, .code yX5_in cX5_in 3 (some .boolean), .methodLink RX5 69 yX5_notes, .instanceMethod yX5_notes, .selects RX5 yX5_notes yX5_notes, .code yX5_notes cX5_notes 2 none, .fieldLink RX5 32 "BallastTrackModel" "pasts" "I", .fieldLink RX5 13 "BallastTrackModel" "past" "[I"] ++ wsX50)
def wsX5_hanging : List Cond := .code yX5_hanging cX5_hanging 3 (some .int) :: ([.fieldLink RX5 7 "BallastTrackModel" "s" "[I", .methodLink RX5 62 yX5_hangs, .instanceMethod yX5_hangs, .selects RX5 yX5_hangs yX5_hangs, .initialized RX5, .code yX5_hangs cX5_hangs 2 (some .boolean), .methodLink RX5 49 yX5_voidAt, .instanceMethod yX5_voidAt, .selects RX5 yX5_voidAt yX5_voidAt, .code yX5_voidAt cX5_voidAt 2 (some .int), .fieldLink RX5 26 "BallastTrackModel" "rail" "[I"] ++ wsX50)
def wsX5_count_r1 : List Cond := [Cond.fieldLink RX5 7 "BallastTrackModel" "s" "[I", Cond.fieldLink RX5 83 "BallastTrackModel" "typed" "I", Cond.fieldLink RX5 32 "BallastTrackModel" "pasts" "I", Cond.fieldLink RX5 159 "BallastTrackModel" "kept" "I", Cond.constant RX5 68 (-100001), Cond.methodLink RX5 143 yX5_laysRail, Cond.instanceMethod yX5_laysRail, Cond.selects RX5 yX5_laysRail yX5_laysRail, Cond.initialized RX5, Cond.code yX5_laysRail cX5_laysRail 3 none, Cond.fieldLink RX5 26 "BallastTrackModel" "rail" "[I", Cond.methodLink RX5 41 yX5_size, Cond.static yX5_size, Cond.code yX5_size cX5_size 1 (some .int), Cond.methodLink RX5 45 yX5_greater, Cond.static yX5_greater, Cond.code yX5_greater cX5_greater 2 (some .int), Cond.methodLink RX5 162 yX5_hanging, Cond.instanceMethod yX5_hanging, Cond.selects RX5 yX5_hanging yX5_hanging, Cond.code yX5_hanging cX5_hanging 3 (some .int), Cond.methodLink RX5 62 yX5_hangs, Cond.instanceMethod yX5_hangs, Cond.selects RX5 yX5_hangs yX5_hangs]
def wsX5_count_r2 : List Cond := [Cond.code yX5_hangs cX5_hangs 2 (some .boolean), Cond.methodLink RX5 49 yX5_voidAt, Cond.instanceMethod yX5_voidAt, Cond.selects RX5 yX5_voidAt yX5_voidAt, Cond.code yX5_voidAt cX5_voidAt 2 (some .int), Cond.methodLink RX5 149 yX5_order, Cond.instanceMethod yX5_order, Cond.selects RX5 yX5_order yX5_order, Cond.code yX5_order cX5_order 3 (some .int), Cond.methodLink RX5 55 yX5_orderAt, Cond.instanceMethod yX5_orderAt, Cond.selects RX5 yX5_orderAt yX5_orderAt, Cond.code yX5_orderAt cX5_orderAt 5 (some .int), Cond.methodLink RX5 52 yX5_defect, Cond.instanceMethod yX5_defect, Cond.selects RX5 yX5_defect yX5_defect, Cond.code yX5_defect cX5_defect 3 (some .int), Cond.methodLink RX5 37 yX5_in, Cond.static yX5_in, Cond.code yX5_in cX5_in 3 (some .boolean)]
def wsX5_count : List Cond := .code yX5_count cX5_count 2 (some .int) :: ((wsX5_count_r1 ++ wsX5_count_r2) ++ wsX50)
def wsX5_sleeper_r1 : List Cond := [Cond.constant RX5 68 (-100001), Cond.fieldLink RX5 7 "BallastTrackModel" "s" "[I", Cond.fieldLink RX5 26 "BallastTrackModel" "rail" "[I", Cond.fieldLink RX5 29 "BallastTrackModel" "load" "[I", Cond.methodLink RX5 58 yX5_isSleeper, Cond.instanceMethod yX5_isSleeper, Cond.selects RX5 yX5_isSleeper yX5_isSleeper, Cond.initialized RX5, Cond.code yX5_isSleeper cX5_isSleeper 2 (some .boolean), Cond.methodLink RX5 37 yX5_in, Cond.static yX5_in, Cond.code yX5_in cX5_in 3 (some .boolean), Cond.methodLink RX5 143 yX5_laysRail, Cond.instanceMethod yX5_laysRail, Cond.selects RX5 yX5_laysRail yX5_laysRail, Cond.code yX5_laysRail cX5_laysRail 3 none, Cond.methodLink RX5 41 yX5_size, Cond.static yX5_size, Cond.code yX5_size cX5_size 1 (some .int), Cond.methodLink RX5 45 yX5_greater, Cond.static yX5_greater, Cond.code yX5_greater cX5_greater 2 (some .int), Cond.methodLink RX5 49 yX5_voidAt, Cond.instanceMethod yX5_voidAt]
def wsX5_sleeper_r2 : List Cond := [Cond.selects RX5 yX5_voidAt yX5_voidAt, Cond.code yX5_voidAt cX5_voidAt 2 (some .int), Cond.methodLink RX5 62 yX5_hangs, Cond.instanceMethod yX5_hangs, Cond.selects RX5 yX5_hangs yX5_hangs, Cond.code yX5_hangs cX5_hangs 2 (some .boolean), Cond.methodLink RX5 136 yX5_laysLoads, Cond.instanceMethod yX5_laysLoads, Cond.selects RX5 yX5_laysLoads yX5_laysLoads, Cond.code yX5_laysLoads cX5_laysLoads 4 none, Cond.methodLink RX5 65 yX5_nearest, Cond.instanceMethod yX5_nearest, Cond.selects RX5 yX5_nearest yX5_nearest, Cond.code yX5_nearest cX5_nearest 4 (some .int), Cond.methodLink RX5 52 yX5_defect, Cond.instanceMethod yX5_defect, Cond.selects RX5 yX5_defect yX5_defect, Cond.code yX5_defect cX5_defect 3 (some .int), Cond.methodLink RX5 55 yX5_orderAt, Cond.instanceMethod yX5_orderAt, Cond.selects RX5 yX5_orderAt yX5_orderAt, Cond.code yX5_orderAt cX5_orderAt 5 (some .int)]
def wsX5_sleeper : List Cond := .code yX5_sleeper cX5_sleeper 3 (some .int) :: ((wsX5_sleeper_r1 ++ wsX5_sleeper_r2) ++ wsX50)
def wsX5_job : List Cond := .code yX5_job cX5_job 3 (some .int) :: ([.constant RX5 68 (-100001), .fieldLink RX5 7 "BallastTrackModel" "s" "[I", .constant RX5 165 (-100009), .methodLink RX5 37 yX5_in, .static yX5_in, .initialized RX5, .code yX5_in cX5_in 3 (some .boolean), .methodLink RX5 114 yX5_jobOf, .instanceMethod yX5_jobOf, .selects RX5 yX5_jobOf yX5_jobOf, .code yX5_jobOf cX5_jobOf 3 (some .int)] ++ wsX50)
def wsX5_account : List Cond := .code yX5_account cX5_account 2 (some .int) :: ([.fieldLink RX5 7 "BallastTrackModel" "s" "[I", .constant RX5 68 (-100001), .methodLink RX5 37 yX5_in, .static yX5_in, .initialized RX5, .code yX5_in cX5_in 3 (some .boolean)] ++ wsX50)
def wsX5_rail : List Cond := .code yX5_rail cX5_rail 4 (some .int) :: ([.constant RX5 68 (-100001), .fieldLink RX5 26 "BallastTrackModel" "rail" "[I", .fieldLink RX5 7 "BallastTrackModel" "s" "[I", .methodLink RX5 58 yX5_isSleeper, .instanceMethod yX5_isSleeper, .selects RX5 yX5_isSleeper yX5_isSleeper, .initialized RX5, .code yX5_isSleeper cX5_isSleeper 2 (some .boolean), .methodLink RX5 37 yX5_in, .static yX5_in, .code yX5_in cX5_in 3 (some .boolean), .methodLink RX5 143 yX5_laysRail, .instanceMethod yX5_laysRail, .selects RX5 yX5_laysRail yX5_laysRail, .code yX5_laysRail cX5_laysRail 3 none, .methodLink RX5 41 yX5_size, .static yX5_size, .code yX5_size cX5_size 1 (some .int), .methodLink RX5 45 yX5_greater, .static yX5_greater, .code yX5_greater cX5_greater 2 (some .int)] ++ wsX50)
def wsX5_why : List Cond := .code yX5_why cX5_why 6 (some .int) :: ([.constant RX5 68 (-100001), .constant RX5 165 (-100009), .fieldLink RX5 7 "BallastTrackModel" "s" "[I", .methodLink RX5 37 yX5_in, .static yX5_in, .initialized RX5, .code yX5_in cX5_in 3 (some .boolean), .methodLink RX5 143 yX5_laysRail, .instanceMethod yX5_laysRail, .selects RX5 yX5_laysRail yX5_laysRail, .code yX5_laysRail cX5_laysRail 3 none, .fieldLink RX5 26 "BallastTrackModel" "rail" "[I", .methodLink RX5 41 yX5_size, .static yX5_size, .code yX5_size cX5_size 1 (some .int), .methodLink RX5 45 yX5_greater, .static yX5_greater, .code yX5_greater cX5_greater 2 (some .int), .methodLink RX5 52 yX5_defect, .instanceMethod yX5_defect, .selects RX5 yX5_defect yX5_defect, .code yX5_defect cX5_defect 3 (some .int)] ++ wsX50)
def wsX5_lifts : List Cond := .code yX5_lifts cX5_lifts 4 (some .int) :: ([.constant RX5 68 (-100001), .fieldLink RX5 7 "BallastTrackModel" "s" "[I", .methodLink RX5 58 yX5_isSleeper, .instanceMethod yX5_isSleeper, .selects RX5 yX5_isSleeper yX5_isSleeper, .initialized RX5, .code yX5_isSleeper cX5_isSleeper 2 (some .boolean), .methodLink RX5 37 yX5_in, .static yX5_in, .code yX5_in cX5_in 3 (some .boolean), .methodLink RX5 76 yX5_isLevel, .static yX5_isLevel, .code yX5_isLevel cX5_isLevel 1 (some .boolean), .methodLink RX5 124 yX5_liftOf, .instanceMethod yX5_liftOf, .selects RX5 yX5_liftOf yX5_liftOf, .code yX5_liftOf cX5_liftOf 3 (some .int), .methodLink RX5 121 yX5_lesser, .static yX5_lesser, .code yX5_lesser cX5_lesser 2 (some .int)] ++ wsX50)
def wsX5_trainsUntil_r1 : List Cond := [Cond.constant RX5 68 (-100001), Cond.constant RX5 165 (-100009), Cond.methodLink RX5 146 yX5_isTrain, Cond.static yX5_isTrain, Cond.initialized RX5, Cond.code yX5_isTrain cX5_isTrain 2 (some .boolean), Cond.methodLink RX5 37 yX5_in, Cond.static yX5_in, Cond.code yX5_in cX5_in 3 (some .boolean), Cond.methodLink RX5 103 yX5_putAside, Cond.instanceMethod yX5_putAside, Cond.selects RX5 yX5_putAside yX5_putAside, Cond.code yX5_putAside cX5_putAside 2 none, Cond.fieldLink RX5 19 "BallastTrackModel" "aside" "[I", Cond.fieldLink RX5 7 "BallastTrackModel" "s" "[I", Cond.methodLink RX5 143 yX5_laysRail, Cond.instanceMethod yX5_laysRail, Cond.selects RX5 yX5_laysRail yX5_laysRail, Cond.code yX5_laysRail cX5_laysRail 3 none, Cond.fieldLink RX5 26 "BallastTrackModel" "rail" "[I", Cond.methodLink RX5 41 yX5_size, Cond.static yX5_size, Cond.code yX5_size cX5_size 1 (some .int), Cond.methodLink RX5 45 yX5_greater]
def wsX5_trainsUntil_r2 : List Cond := [Cond.static yX5_greater, Cond.code yX5_greater cX5_greater 2 (some .int), Cond.methodLink RX5 149 yX5_order, Cond.instanceMethod yX5_order, Cond.selects RX5 yX5_order yX5_order, Cond.code yX5_order cX5_order 3 (some .int), Cond.methodLink RX5 55 yX5_orderAt, Cond.instanceMethod yX5_orderAt, Cond.selects RX5 yX5_orderAt yX5_orderAt, Cond.code yX5_orderAt cX5_orderAt 5 (some .int), Cond.methodLink RX5 52 yX5_defect, Cond.instanceMethod yX5_defect, Cond.selects RX5 yX5_defect yX5_defect, Cond.code yX5_defect cX5_defect 3 (some .int), Cond.methodLink RX5 152 yX5_passes, Cond.instanceMethod yX5_passes, Cond.selects RX5 yX5_passes yX5_passes, Cond.code yX5_passes cX5_passes 11 none, Cond.fieldLink RX5 29 "BallastTrackModel" "load" "[I", Cond.constantLong RX5 139 (4000000), Cond.constantLong RX5 141 (-9999), Cond.methodLink RX5 136 yX5_laysLoads, Cond.instanceMethod yX5_laysLoads, Cond.selects RX5 yX5_laysLoads yX5_laysLoads]
def wsX5_trainsUntil_r3 : List Cond := [Cond.code yX5_laysLoads cX5_laysLoads 4 none, Cond.methodLink RX5 62 yX5_hangs, Cond.instanceMethod yX5_hangs, Cond.selects RX5 yX5_hangs yX5_hangs, Cond.code yX5_hangs cX5_hangs 2 (some .boolean), Cond.methodLink RX5 49 yX5_voidAt, Cond.instanceMethod yX5_voidAt, Cond.selects RX5 yX5_voidAt yX5_voidAt, Cond.code yX5_voidAt cX5_voidAt 2 (some .int), Cond.methodLink RX5 65 yX5_nearest, Cond.instanceMethod yX5_nearest, Cond.selects RX5 yX5_nearest yX5_nearest, Cond.code yX5_nearest cX5_nearest 4 (some .int), Cond.methodLink RX5 58 yX5_isSleeper, Cond.instanceMethod yX5_isSleeper, Cond.selects RX5 yX5_isSleeper yX5_isSleeper, Cond.code yX5_isSleeper cX5_isSleeper 2 (some .boolean), Cond.methodLink RX5 121 yX5_lesser, Cond.static yX5_lesser, Cond.code yX5_lesser cX5_lesser 2 (some .int), Cond.methodLink RX5 111 yX5_putBack, Cond.instanceMethod yX5_putBack, Cond.selects RX5 yX5_putBack yX5_putBack, Cond.code yX5_putBack cX5_putBack 2 none]
def wsX5_trainsUntil : List Cond := .code yX5_trainsUntil cX5_trainsUntil 6 (some .int) :: ((wsX5_trainsUntil_r1 ++ (wsX5_trainsUntil_r2 ++ wsX5_trainsUntil_r3)) ++ wsX50)
def wsX5_voidsWith_r1 : List Cond := [Cond.fieldLink RX5 7 "BallastTrackModel" "s" "[I", Cond.methodLink RX5 103 yX5_putAside, Cond.instanceMethod yX5_putAside, Cond.selects RX5 yX5_putAside yX5_putAside, Cond.initialized RX5, Cond.code yX5_putAside cX5_putAside 2 none, Cond.fieldLink RX5 19 "BallastTrackModel" "aside" "[I", Cond.methodLink RX5 124 yX5_liftOf, Cond.instanceMethod yX5_liftOf, Cond.selects RX5 yX5_liftOf yX5_liftOf, Cond.code yX5_liftOf cX5_liftOf 3 (some .int), Cond.methodLink RX5 121 yX5_lesser, Cond.static yX5_lesser, Cond.code yX5_lesser cX5_lesser 2 (some .int), Cond.methodLink RX5 143 yX5_laysRail, Cond.instanceMethod yX5_laysRail, Cond.selects RX5 yX5_laysRail yX5_laysRail, Cond.code yX5_laysRail cX5_laysRail 3 none, Cond.fieldLink RX5 26 "BallastTrackModel" "rail" "[I", Cond.methodLink RX5 41 yX5_size, Cond.static yX5_size, Cond.code yX5_size cX5_size 1 (some .int), Cond.methodLink RX5 45 yX5_greater, Cond.static yX5_greater]
def wsX5_voidsWith_r2 : List Cond := [Cond.code yX5_greater cX5_greater 2 (some .int), Cond.methodLink RX5 49 yX5_voidAt, Cond.instanceMethod yX5_voidAt, Cond.selects RX5 yX5_voidAt yX5_voidAt, Cond.code yX5_voidAt cX5_voidAt 2 (some .int), Cond.methodLink RX5 111 yX5_putBack, Cond.instanceMethod yX5_putBack, Cond.selects RX5 yX5_putBack yX5_putBack, Cond.code yX5_putBack cX5_putBack 2 none]
def wsX5_voidsWith : List Cond := .code yX5_voidsWith cX5_voidsWith 6 (some .int) :: ((wsX5_voidsWith_r1 ++ wsX5_voidsWith_r2) ++ wsX50)
def wsX5_bestRow_r1 : List Cond := [Cond.fieldLink RX5 7 "BallastTrackModel" "s" "[I", Cond.constant RX5 68 (-100001), Cond.methodLink RX5 37 yX5_in, Cond.static yX5_in, Cond.initialized RX5, Cond.code yX5_in cX5_in 3 (some .boolean), Cond.methodLink RX5 76 yX5_isLevel, Cond.static yX5_isLevel, Cond.code yX5_isLevel cX5_isLevel 1 (some .boolean), Cond.methodLink RX5 166 yX5_voidsWith, Cond.instanceMethod yX5_voidsWith, Cond.selects RX5 yX5_voidsWith yX5_voidsWith, Cond.code yX5_voidsWith cX5_voidsWith 6 (some .int), Cond.methodLink RX5 103 yX5_putAside, Cond.instanceMethod yX5_putAside, Cond.selects RX5 yX5_putAside yX5_putAside, Cond.code yX5_putAside cX5_putAside 2 none, Cond.fieldLink RX5 19 "BallastTrackModel" "aside" "[I", Cond.methodLink RX5 124 yX5_liftOf, Cond.instanceMethod yX5_liftOf, Cond.selects RX5 yX5_liftOf yX5_liftOf, Cond.code yX5_liftOf cX5_liftOf 3 (some .int), Cond.methodLink RX5 121 yX5_lesser, Cond.static yX5_lesser]
def wsX5_bestRow_r2 : List Cond := [Cond.code yX5_lesser cX5_lesser 2 (some .int), Cond.methodLink RX5 143 yX5_laysRail, Cond.instanceMethod yX5_laysRail, Cond.selects RX5 yX5_laysRail yX5_laysRail, Cond.code yX5_laysRail cX5_laysRail 3 none, Cond.fieldLink RX5 26 "BallastTrackModel" "rail" "[I", Cond.methodLink RX5 41 yX5_size, Cond.static yX5_size, Cond.code yX5_size cX5_size 1 (some .int), Cond.methodLink RX5 45 yX5_greater, Cond.static yX5_greater, Cond.code yX5_greater cX5_greater 2 (some .int), Cond.methodLink RX5 49 yX5_voidAt, Cond.instanceMethod yX5_voidAt, Cond.selects RX5 yX5_voidAt yX5_voidAt, Cond.code yX5_voidAt cX5_voidAt 2 (some .int), Cond.methodLink RX5 111 yX5_putBack, Cond.instanceMethod yX5_putBack, Cond.selects RX5 yX5_putBack yX5_putBack, Cond.code yX5_putBack cX5_putBack 2 none]
def wsX5_bestRow : List Cond := .code yX5_bestRow cX5_bestRow 8 (some .int) :: ((wsX5_bestRow_r1 ++ wsX5_bestRow_r2) ++ wsX50)
def wsX5_minutesLeft_r1 : List Cond := [Cond.fieldLink RX5 7 "BallastTrackModel" "s" "[I", Cond.constant RX5 170 (1000000), Cond.methodLink RX5 103 yX5_putAside, Cond.instanceMethod yX5_putAside, Cond.selects RX5 yX5_putAside yX5_putAside, Cond.initialized RX5, Cond.code yX5_putAside cX5_putAside 2 none, Cond.fieldLink RX5 19 "BallastTrackModel" "aside" "[I", Cond.methodLink RX5 133 yX5_works, Cond.instanceMethod yX5_works, Cond.selects RX5 yX5_works yX5_works, Cond.code yX5_works cX5_works 8 (some .int), Cond.methodLink RX5 114 yX5_jobOf, Cond.instanceMethod yX5_jobOf, Cond.selects RX5 yX5_jobOf yX5_jobOf, Cond.code yX5_jobOf cX5_jobOf 3 (some .int), Cond.methodLink RX5 124 yX5_liftOf, Cond.instanceMethod yX5_liftOf, Cond.selects RX5 yX5_liftOf yX5_liftOf, Cond.code yX5_liftOf cX5_liftOf 3 (some .int), Cond.methodLink RX5 121 yX5_lesser, Cond.static yX5_lesser, Cond.code yX5_lesser cX5_lesser 2 (some .int), Cond.methodLink RX5 127 yX5_minutesFor]
def wsX5_minutesLeft_r2 : List Cond := [Cond.static yX5_minutesFor, Cond.code yX5_minutesFor cX5_minutesFor 1 (some .int), Cond.methodLink RX5 130 yX5_lift, Cond.instanceMethod yX5_lift, Cond.selects RX5 yX5_lift yX5_lift, Cond.code yX5_lift cX5_lift 3 none, Cond.methodLink RX5 117 yX5_drops, Cond.instanceMethod yX5_drops, Cond.selects RX5 yX5_drops yX5_drops, Cond.code yX5_drops cX5_drops 3 none, Cond.methodLink RX5 111 yX5_putBack, Cond.instanceMethod yX5_putBack, Cond.selects RX5 yX5_putBack yX5_putBack, Cond.code yX5_putBack cX5_putBack 2 none]
def wsX5_minutesLeft : List Cond := .code yX5_minutesLeft cX5_minutesLeft 4 (some .int) :: ((wsX5_minutesLeft_r1 ++ wsX5_minutesLeft_r2) ++ wsX50)
def wsJ9_abs_0f7a4 : List Cond := .code yJ9_abs_0f7a4 cJ9_abs_0f7a4 1 (some .int) :: ([])
def wsJ9_max_7cf53 : List Cond := .code yJ9_max_7cf53 cJ9_max_7cf53 2 (some .int) :: ([])
def wsJ9_min_7cf53 : List Cond := .code yJ9_min_7cf53 cJ9_min_7cf53 2 (some .int) :: ([])
abbrev vwCl : List vw_C := [(RX0, TX0, 3), (RX1, TX1, 9), (RX2, TX2, 8), (RX3, TX3, 4), (RX4, TX4, 8), (RX5, TX5, 12)]
end
section
set_option maxRecDepth 20000 in
theorem ggX0_init_X1_init : GoodIn wsX0_init wsX1_init := goodIn_r _ [12, 13, 2, 3, 14, 15, 16, 17, 18, 19, 20, 21, 22, 23, 24, 25, 26, 27, 31, 32, 33, 34, 35, 36, 37, 38, 39] (by decide +kernel) (by decide +kernel)
set_option maxRecDepth 20000 in
theorem gX0_init_X1_init : GoodIn wsX0_init (wsX1_init) := ggX0_init_X1_init
theorem dX0_init_0 : decode cX0_init 0 = .ok (.aload_n 0, 1) := by decide +kernel
theorem dX0_init_1 : decode cX0_init 1 = .ok (.invokespecial 3, 3) := by decide +kernel
theorem dX0_init_4 : decode cX0_init 4 = .ok (.aload_n 0, 1) := by decide +kernel
theorem dX0_init_5 : decode cX0_init 5 = .ok (.bipush 6, 2) := by decide +kernel
theorem dX0_init_7 : decode cX0_init 7 = .ok (.anewarray 9, 3) := by decide +kernel
theorem dX0_init_10 : decode cX0_init 10 = .ok (.putfield 11, 3) := by decide +kernel
theorem dX0_init_13 : decode cX0_init 13 = .ok (.aload_n 0, 1) := by decide +kernel
theorem dX0_init_14 : decode cX0_init 14 = .ok (.iconst 0, 1) := by decide +kernel
theorem dX0_init_15 : decode cX0_init 15 = .ok (.putfield 17, 3) := by decide +kernel
theorem dX0_init_18 : decode cX0_init 18 = .ok (.aload_n 0, 1) := by decide +kernel
theorem dX0_init_19 : decode cX0_init 19 = .ok (.iconst 0, 1) := by decide +kernel
theorem dX0_init_20 : decode cX0_init 20 = .ok (.putfield 21, 3) := by decide +kernel
theorem dX0_init_23 : decode cX0_init 23 = .ok (.iconst 0, 1) := by decide +kernel
theorem dX0_init_24 : decode cX0_init 24 = .ok (.istore_n 1, 1) := by decide +kernel
theorem dX0_init_25 : decode cX0_init 25 = .ok (.iload_n 1, 1) := by decide +kernel
theorem dX0_init_26 : decode cX0_init 26 = .ok (.bipush 6, 2) := by decide +kernel
theorem dX0_init_28 : decode cX0_init 28 = .ok (.if_icmp .ge 22, 3) := by decide +kernel
theorem dX0_init_31 : decode cX0_init 31 = .ok (.aload_n 0, 1) := by decide +kernel
theorem dX0_init_32 : decode cX0_init 32 = .ok (.getfield 11, 3) := by decide +kernel
theorem dX0_init_35 : decode cX0_init 35 = .ok (.iload_n 1, 1) := by decide +kernel
theorem dX0_init_36 : decode cX0_init 36 = .ok (.new 9, 3) := by decide +kernel
theorem dX0_init_39 : decode cX0_init 39 = .ok (.dup, 1) := by decide +kernel
theorem dX0_init_40 : decode cX0_init 40 = .ok (.invokespecial 24, 3) := by decide +kernel
theorem dX0_init_43 : decode cX0_init 43 = .ok (.aastore, 1) := by decide +kernel
theorem dX0_init_44 : decode cX0_init 44 = .ok (.iinc 1 1, 3) := by decide +kernel
theorem dX0_init_47 : decode cX0_init 47 = .ok (.goto (-22), 3) := by decide +kernel
theorem dX0_init_50 : decode cX0_init 50 = .ok (.return_, 1) := by decide +kernel
set_option maxRecDepth 20000 in
theorem ggX0_save_X1_copyFrom : GoodIn wsX0_save wsX1_copyFrom := goodIn_r _ [8, 9, 10, 11, 12, 13, 14, 15, 16, 17, 18, 19, 20, 21, 25, 26, 27, 28, 29, 30, 31, 32, 33] (by decide +kernel) (by decide +kernel)
set_option maxRecDepth 20000 in
theorem gX0_save_X1_copyFrom : GoodIn wsX0_save (wsV RX0 25 RX1 yX1_copyFrom wsX1_copyFrom) := goodIn_app (goodIn_of _ (by decide +kernel)) ggX0_save_X1_copyFrom
theorem dX0_save_0 : decode cX0_save 0 = .ok (.aload_n 0, 1) := by decide +kernel
theorem dX0_save_1 : decode cX0_save 1 = .ok (.getfield 11, 3) := by decide +kernel
theorem dX0_save_4 : decode cX0_save 4 = .ok (.aload_n 0, 1) := by decide +kernel
theorem dX0_save_5 : decode cX0_save 5 = .ok (.getfield 17, 3) := by decide +kernel
theorem dX0_save_8 : decode cX0_save 8 = .ok (.aload_n 0, 1) := by decide +kernel
theorem dX0_save_9 : decode cX0_save 9 = .ok (.getfield 21, 3) := by decide +kernel
theorem dX0_save_12 : decode cX0_save 12 = .ok (.iadd, 1) := by decide +kernel
theorem dX0_save_13 : decode cX0_save 13 = .ok (.bipush 6, 2) := by decide +kernel
theorem dX0_save_15 : decode cX0_save 15 = .ok (.irem, 1) := by decide +kernel
theorem dX0_save_16 : decode cX0_save 16 = .ok (.aaload, 1) := by decide +kernel
theorem dX0_save_17 : decode cX0_save 17 = .ok (.aload_n 1, 1) := by decide +kernel
theorem dX0_save_18 : decode cX0_save 18 = .ok (.invokevirtual 25, 3) := by decide +kernel
theorem dX0_save_21 : decode cX0_save 21 = .ok (.aload_n 0, 1) := by decide +kernel
theorem dX0_save_22 : decode cX0_save 22 = .ok (.getfield 21, 3) := by decide +kernel
theorem dX0_save_25 : decode cX0_save 25 = .ok (.bipush 6, 2) := by decide +kernel
theorem dX0_save_27 : decode cX0_save 27 = .ok (.if_icmp .ge 16, 3) := by decide +kernel
theorem dX0_save_30 : decode cX0_save 30 = .ok (.aload_n 0, 1) := by decide +kernel
theorem dX0_save_31 : decode cX0_save 31 = .ok (.dup, 1) := by decide +kernel
theorem dX0_save_32 : decode cX0_save 32 = .ok (.getfield 21, 3) := by decide +kernel
theorem dX0_save_35 : decode cX0_save 35 = .ok (.iconst 1, 1) := by decide +kernel
theorem dX0_save_36 : decode cX0_save 36 = .ok (.iadd, 1) := by decide +kernel
theorem dX0_save_37 : decode cX0_save 37 = .ok (.putfield 21, 3) := by decide +kernel
theorem dX0_save_40 : decode cX0_save 40 = .ok (.goto 16, 3) := by decide +kernel
theorem dX0_save_43 : decode cX0_save 43 = .ok (.aload_n 0, 1) := by decide +kernel
theorem dX0_save_44 : decode cX0_save 44 = .ok (.aload_n 0, 1) := by decide +kernel
theorem dX0_save_45 : decode cX0_save 45 = .ok (.getfield 17, 3) := by decide +kernel
theorem dX0_save_48 : decode cX0_save 48 = .ok (.iconst 1, 1) := by decide +kernel
theorem dX0_save_49 : decode cX0_save 49 = .ok (.iadd, 1) := by decide +kernel
theorem dX0_save_50 : decode cX0_save 50 = .ok (.bipush 6, 2) := by decide +kernel
theorem dX0_save_52 : decode cX0_save 52 = .ok (.irem, 1) := by decide +kernel
theorem dX0_save_53 : decode cX0_save 53 = .ok (.putfield 17, 3) := by decide +kernel
theorem dX0_save_56 : decode cX0_save 56 = .ok (.return_, 1) := by decide +kernel
set_option maxRecDepth 20000 in
theorem ggX0_restore_X1_copyFrom : GoodIn wsX0_restore wsX1_copyFrom := goodIn_r _ [8, 9, 10, 11, 12, 13, 14, 15, 16, 17, 18, 19, 20, 21, 25, 26, 27, 28, 29, 30, 31, 32, 33] (by decide +kernel) (by decide +kernel)
set_option maxRecDepth 20000 in
theorem gX0_restore_X1_copyFrom : GoodIn wsX0_restore (wsV RX0 25 RX1 yX1_copyFrom wsX1_copyFrom) := goodIn_app (goodIn_of _ (by decide +kernel)) ggX0_restore_X1_copyFrom
theorem dX0_restore_0 : decode cX0_restore 0 = .ok (.aload_n 0, 1) := by decide +kernel
theorem dX0_restore_1 : decode cX0_restore 1 = .ok (.getfield 21, 3) := by decide +kernel
theorem dX0_restore_4 : decode cX0_restore 4 = .ok (.ifCond .le 34, 3) := by decide +kernel
theorem dX0_restore_7 : decode cX0_restore 7 = .ok (.aload_n 0, 1) := by decide +kernel
theorem dX0_restore_8 : decode cX0_restore 8 = .ok (.dup, 1) := by decide +kernel
theorem dX0_restore_9 : decode cX0_restore 9 = .ok (.getfield 21, 3) := by decide +kernel
theorem dX0_restore_12 : decode cX0_restore 12 = .ok (.iconst 1, 1) := by decide +kernel
theorem dX0_restore_13 : decode cX0_restore 13 = .ok (.isub, 1) := by decide +kernel
theorem dX0_restore_14 : decode cX0_restore 14 = .ok (.putfield 21, 3) := by decide +kernel
theorem dX0_restore_17 : decode cX0_restore 17 = .ok (.aload_n 1, 1) := by decide +kernel
theorem dX0_restore_18 : decode cX0_restore 18 = .ok (.aload_n 0, 1) := by decide +kernel
theorem dX0_restore_19 : decode cX0_restore 19 = .ok (.getfield 11, 3) := by decide +kernel
theorem dX0_restore_22 : decode cX0_restore 22 = .ok (.aload_n 0, 1) := by decide +kernel
theorem dX0_restore_23 : decode cX0_restore 23 = .ok (.getfield 17, 3) := by decide +kernel
theorem dX0_restore_26 : decode cX0_restore 26 = .ok (.aload_n 0, 1) := by decide +kernel
theorem dX0_restore_27 : decode cX0_restore 27 = .ok (.getfield 21, 3) := by decide +kernel
theorem dX0_restore_30 : decode cX0_restore 30 = .ok (.iadd, 1) := by decide +kernel
theorem dX0_restore_31 : decode cX0_restore 31 = .ok (.bipush 6, 2) := by decide +kernel
theorem dX0_restore_33 : decode cX0_restore 33 = .ok (.irem, 1) := by decide +kernel
theorem dX0_restore_34 : decode cX0_restore 34 = .ok (.aaload, 1) := by decide +kernel
theorem dX0_restore_35 : decode cX0_restore 35 = .ok (.invokevirtual 25, 3) := by decide +kernel
theorem dX0_restore_38 : decode cX0_restore 38 = .ok (.return_, 1) := by decide +kernel
theorem dX1_init_0 : decode cX1_init 0 = .ok (.aload_n 0, 1) := by decide +kernel
theorem dX1_init_1 : decode cX1_init 1 = .ok (.invokespecial 3, 3) := by decide +kernel
theorem dX1_init_4 : decode cX1_init 4 = .ok (.aload_n 0, 1) := by decide +kernel
theorem dX1_init_5 : decode cX1_init 5 = .ok (.bipush 40, 2) := by decide +kernel
theorem dX1_init_7 : decode cX1_init 7 = .ok (.putfield 9, 3) := by decide +kernel
theorem dX1_init_10 : decode cX1_init 10 = .ok (.aload_n 0, 1) := by decide +kernel
theorem dX1_init_11 : decode cX1_init 11 = .ok (.iconst 0, 1) := by decide +kernel
theorem dX1_init_12 : decode cX1_init 12 = .ok (.putfield 15, 3) := by decide +kernel
theorem dX1_init_15 : decode cX1_init 15 = .ok (.aload_n 0, 1) := by decide +kernel
theorem dX1_init_16 : decode cX1_init 16 = .ok (.bipush 8, 2) := by decide +kernel
theorem dX1_init_18 : decode cX1_init 18 = .ok (.newarray .int, 2) := by decide +kernel
theorem dX1_init_20 : decode cX1_init 20 = .ok (.putfield 18, 3) := by decide +kernel
theorem dX1_init_23 : decode cX1_init 23 = .ok (.aload_n 0, 1) := by decide +kernel
theorem dX1_init_24 : decode cX1_init 24 = .ok (.bipush 60, 2) := by decide +kernel
theorem dX1_init_26 : decode cX1_init 26 = .ok (.newarray .int, 2) := by decide +kernel
theorem dX1_init_28 : decode cX1_init 28 = .ok (.putfield 22, 3) := by decide +kernel
theorem dX1_init_31 : decode cX1_init 31 = .ok (.aload_n 0, 1) := by decide +kernel
theorem dX1_init_32 : decode cX1_init 32 = .ok (.bipush 60, 2) := by decide +kernel
theorem dX1_init_34 : decode cX1_init 34 = .ok (.newarray .int, 2) := by decide +kernel
theorem dX1_init_36 : decode cX1_init 36 = .ok (.putfield 25, 3) := by decide +kernel
theorem dX1_init_39 : decode cX1_init 39 = .ok (.aload_n 0, 1) := by decide +kernel
theorem dX1_init_40 : decode cX1_init 40 = .ok (.bipush 60, 2) := by decide +kernel
theorem dX1_init_42 : decode cX1_init 42 = .ok (.newarray .int, 2) := by decide +kernel
theorem dX1_init_44 : decode cX1_init 44 = .ok (.putfield 28, 3) := by decide +kernel
theorem dX1_init_47 : decode cX1_init 47 = .ok (.aload_n 0, 1) := by decide +kernel
theorem dX1_init_48 : decode cX1_init 48 = .ok (.bipush 60, 2) := by decide +kernel
theorem dX1_init_50 : decode cX1_init 50 = .ok (.newarray .int, 2) := by decide +kernel
theorem dX1_init_52 : decode cX1_init 52 = .ok (.putfield 31, 3) := by decide +kernel
theorem dX1_init_55 : decode cX1_init 55 = .ok (.aload_n 0, 1) := by decide +kernel
theorem dX1_init_56 : decode cX1_init 56 = .ok (.bipush 24, 2) := by decide +kernel
theorem dX1_init_58 : decode cX1_init 58 = .ok (.newarray .int, 2) := by decide +kernel
theorem dX1_init_60 : decode cX1_init 60 = .ok (.putfield 34, 3) := by decide +kernel
theorem dX1_init_63 : decode cX1_init 63 = .ok (.aload_n 0, 1) := by decide +kernel
theorem dX1_init_64 : decode cX1_init 64 = .ok (.bipush 7, 2) := by decide +kernel
theorem dX1_init_66 : decode cX1_init 66 = .ok (.newarray .int, 2) := by decide +kernel
theorem dX1_init_68 : decode cX1_init 68 = .ok (.putfield 37, 3) := by decide +kernel
theorem dX1_init_71 : decode cX1_init 71 = .ok (.getstatic 40, 3) := by decide +kernel
theorem dX1_init_74 : decode cX1_init 74 = .ok (.iconst 0, 1) := by decide +kernel
theorem dX1_init_75 : decode cX1_init 75 = .ok (.aload_n 0, 1) := by decide +kernel
theorem dX1_init_76 : decode cX1_init 76 = .ok (.getfield 18, 3) := by decide +kernel
theorem dX1_init_79 : decode cX1_init 79 = .ok (.iconst 0, 1) := by decide +kernel
theorem dX1_init_80 : decode cX1_init 80 = .ok (.bipush 8, 2) := by decide +kernel
theorem dX1_init_82 : decode cX1_init 82 = .ok (.invokestatic 43, 3) := by decide +kernel
theorem dX1_init_85 : decode cX1_init 85 = .ok (.return_, 1) := by decide +kernel
theorem dX1_copyFrom_0 : decode cX1_copyFrom 0 = .ok (.aload_n 0, 1) := by decide +kernel
theorem dX1_copyFrom_1 : decode cX1_copyFrom 1 = .ok (.aload_n 1, 1) := by decide +kernel
theorem dX1_copyFrom_2 : decode cX1_copyFrom 2 = .ok (.getfield 9, 3) := by decide +kernel
theorem dX1_copyFrom_5 : decode cX1_copyFrom 5 = .ok (.putfield 9, 3) := by decide +kernel
theorem dX1_copyFrom_8 : decode cX1_copyFrom 8 = .ok (.aload_n 0, 1) := by decide +kernel
theorem dX1_copyFrom_9 : decode cX1_copyFrom 9 = .ok (.aload_n 1, 1) := by decide +kernel
theorem dX1_copyFrom_10 : decode cX1_copyFrom 10 = .ok (.getfield 15, 3) := by decide +kernel
theorem dX1_copyFrom_13 : decode cX1_copyFrom 13 = .ok (.putfield 15, 3) := by decide +kernel
theorem dX1_copyFrom_16 : decode cX1_copyFrom 16 = .ok (.aload_n 1, 1) := by decide +kernel
theorem dX1_copyFrom_17 : decode cX1_copyFrom 17 = .ok (.getfield 18, 3) := by decide +kernel
theorem dX1_copyFrom_20 : decode cX1_copyFrom 20 = .ok (.iconst 0, 1) := by decide +kernel
theorem dX1_copyFrom_21 : decode cX1_copyFrom 21 = .ok (.aload_n 0, 1) := by decide +kernel
theorem dX1_copyFrom_22 : decode cX1_copyFrom 22 = .ok (.getfield 18, 3) := by decide +kernel
theorem dX1_copyFrom_25 : decode cX1_copyFrom 25 = .ok (.iconst 0, 1) := by decide +kernel
theorem dX1_copyFrom_26 : decode cX1_copyFrom 26 = .ok (.bipush 8, 2) := by decide +kernel
theorem dX1_copyFrom_28 : decode cX1_copyFrom 28 = .ok (.invokestatic 43, 3) := by decide +kernel
theorem dX1_copyFrom_31 : decode cX1_copyFrom 31 = .ok (.aload_n 1, 1) := by decide +kernel
theorem dX1_copyFrom_32 : decode cX1_copyFrom 32 = .ok (.getfield 22, 3) := by decide +kernel
theorem dX1_copyFrom_35 : decode cX1_copyFrom 35 = .ok (.iconst 0, 1) := by decide +kernel
theorem dX1_copyFrom_36 : decode cX1_copyFrom 36 = .ok (.aload_n 0, 1) := by decide +kernel
theorem dX1_copyFrom_37 : decode cX1_copyFrom 37 = .ok (.getfield 22, 3) := by decide +kernel
theorem dX1_copyFrom_40 : decode cX1_copyFrom 40 = .ok (.iconst 0, 1) := by decide +kernel
theorem dX1_copyFrom_41 : decode cX1_copyFrom 41 = .ok (.bipush 60, 2) := by decide +kernel
theorem dX1_copyFrom_43 : decode cX1_copyFrom 43 = .ok (.invokestatic 43, 3) := by decide +kernel
theorem dX1_copyFrom_46 : decode cX1_copyFrom 46 = .ok (.aload_n 1, 1) := by decide +kernel
theorem dX1_copyFrom_47 : decode cX1_copyFrom 47 = .ok (.getfield 25, 3) := by decide +kernel
theorem dX1_copyFrom_50 : decode cX1_copyFrom 50 = .ok (.iconst 0, 1) := by decide +kernel
theorem dX1_copyFrom_51 : decode cX1_copyFrom 51 = .ok (.aload_n 0, 1) := by decide +kernel
theorem dX1_copyFrom_52 : decode cX1_copyFrom 52 = .ok (.getfield 25, 3) := by decide +kernel
theorem dX1_copyFrom_55 : decode cX1_copyFrom 55 = .ok (.iconst 0, 1) := by decide +kernel
theorem dX1_copyFrom_56 : decode cX1_copyFrom 56 = .ok (.bipush 60, 2) := by decide +kernel
theorem dX1_copyFrom_58 : decode cX1_copyFrom 58 = .ok (.invokestatic 43, 3) := by decide +kernel
theorem dX1_copyFrom_61 : decode cX1_copyFrom 61 = .ok (.aload_n 1, 1) := by decide +kernel
theorem dX1_copyFrom_62 : decode cX1_copyFrom 62 = .ok (.getfield 28, 3) := by decide +kernel
theorem dX1_copyFrom_65 : decode cX1_copyFrom 65 = .ok (.iconst 0, 1) := by decide +kernel
theorem dX1_copyFrom_66 : decode cX1_copyFrom 66 = .ok (.aload_n 0, 1) := by decide +kernel
theorem dX1_copyFrom_67 : decode cX1_copyFrom 67 = .ok (.getfield 28, 3) := by decide +kernel
theorem dX1_copyFrom_70 : decode cX1_copyFrom 70 = .ok (.iconst 0, 1) := by decide +kernel
theorem dX1_copyFrom_71 : decode cX1_copyFrom 71 = .ok (.bipush 60, 2) := by decide +kernel
theorem dX1_copyFrom_73 : decode cX1_copyFrom 73 = .ok (.invokestatic 43, 3) := by decide +kernel
theorem dX1_copyFrom_76 : decode cX1_copyFrom 76 = .ok (.aload_n 1, 1) := by decide +kernel
theorem dX1_copyFrom_77 : decode cX1_copyFrom 77 = .ok (.getfield 31, 3) := by decide +kernel
theorem dX1_copyFrom_80 : decode cX1_copyFrom 80 = .ok (.iconst 0, 1) := by decide +kernel
theorem dX1_copyFrom_81 : decode cX1_copyFrom 81 = .ok (.aload_n 0, 1) := by decide +kernel
theorem dX1_copyFrom_82 : decode cX1_copyFrom 82 = .ok (.getfield 31, 3) := by decide +kernel
theorem dX1_copyFrom_85 : decode cX1_copyFrom 85 = .ok (.iconst 0, 1) := by decide +kernel
theorem dX1_copyFrom_86 : decode cX1_copyFrom 86 = .ok (.bipush 60, 2) := by decide +kernel
theorem dX1_copyFrom_88 : decode cX1_copyFrom 88 = .ok (.invokestatic 43, 3) := by decide +kernel
theorem dX1_copyFrom_91 : decode cX1_copyFrom 91 = .ok (.aload_n 1, 1) := by decide +kernel
theorem dX1_copyFrom_92 : decode cX1_copyFrom 92 = .ok (.getfield 34, 3) := by decide +kernel
theorem dX1_copyFrom_95 : decode cX1_copyFrom 95 = .ok (.iconst 0, 1) := by decide +kernel
theorem dX1_copyFrom_96 : decode cX1_copyFrom 96 = .ok (.aload_n 0, 1) := by decide +kernel
theorem dX1_copyFrom_97 : decode cX1_copyFrom 97 = .ok (.getfield 34, 3) := by decide +kernel
theorem dX1_copyFrom_100 : decode cX1_copyFrom 100 = .ok (.iconst 0, 1) := by decide +kernel
theorem dX1_copyFrom_101 : decode cX1_copyFrom 101 = .ok (.bipush 24, 2) := by decide +kernel
theorem dX1_copyFrom_103 : decode cX1_copyFrom 103 = .ok (.invokestatic 43, 3) := by decide +kernel
theorem dX1_copyFrom_106 : decode cX1_copyFrom 106 = .ok (.aload_n 1, 1) := by decide +kernel
theorem dX1_copyFrom_107 : decode cX1_copyFrom 107 = .ok (.getfield 37, 3) := by decide +kernel
theorem dX1_copyFrom_110 : decode cX1_copyFrom 110 = .ok (.iconst 0, 1) := by decide +kernel
theorem dX1_copyFrom_111 : decode cX1_copyFrom 111 = .ok (.aload_n 0, 1) := by decide +kernel
theorem dX1_copyFrom_112 : decode cX1_copyFrom 112 = .ok (.getfield 37, 3) := by decide +kernel
theorem dX1_copyFrom_115 : decode cX1_copyFrom 115 = .ok (.iconst 0, 1) := by decide +kernel
theorem dX1_copyFrom_116 : decode cX1_copyFrom 116 = .ok (.bipush 7, 2) := by decide +kernel
theorem dX1_copyFrom_118 : decode cX1_copyFrom 118 = .ok (.invokestatic 43, 3) := by decide +kernel
theorem dX1_copyFrom_121 : decode cX1_copyFrom 121 = .ok (.return_, 1) := by decide +kernel
set_option maxRecDepth 20000 in
theorem ggX1_makeNew_J7_fill_53178 : GoodIn wsX1_makeNew wsJ7_fill_53178 := goodIn_r _ [11] (by decide +kernel) (by decide +kernel)
set_option maxRecDepth 20000 in
theorem gX1_makeNew_J7_fill_53178 : GoodIn wsX1_makeNew (va_wsS RX1 49 yJ7_fill_53178 wsJ7_fill_53178) := goodIn_app (goodIn_of _ (by decide +kernel)) ggX1_makeNew_J7_fill_53178
theorem dX1_makeNew_0 : decode cX1_makeNew 0 = .ok (.aload_n 0, 1) := by decide +kernel
theorem dX1_makeNew_1 : decode cX1_makeNew 1 = .ok (.iload_n 1, 1) := by decide +kernel
theorem dX1_makeNew_2 : decode cX1_makeNew 2 = .ok (.putfield 9, 3) := by decide +kernel
theorem dX1_makeNew_5 : decode cX1_makeNew 5 = .ok (.aload_n 0, 1) := by decide +kernel
theorem dX1_makeNew_6 : decode cX1_makeNew 6 = .ok (.iconst 0, 1) := by decide +kernel
theorem dX1_makeNew_7 : decode cX1_makeNew 7 = .ok (.putfield 15, 3) := by decide +kernel
theorem dX1_makeNew_10 : decode cX1_makeNew 10 = .ok (.aload_n 0, 1) := by decide +kernel
theorem dX1_makeNew_11 : decode cX1_makeNew 11 = .ok (.getfield 22, 3) := by decide +kernel
theorem dX1_makeNew_14 : decode cX1_makeNew 14 = .ok (.iconst 0, 1) := by decide +kernel
theorem dX1_makeNew_15 : decode cX1_makeNew 15 = .ok (.invokestatic 49, 3) := by decide +kernel
theorem dX1_makeNew_18 : decode cX1_makeNew 18 = .ok (.aload_n 0, 1) := by decide +kernel
theorem dX1_makeNew_19 : decode cX1_makeNew 19 = .ok (.getfield 25, 3) := by decide +kernel
theorem dX1_makeNew_22 : decode cX1_makeNew 22 = .ok (.iconst 0, 1) := by decide +kernel
theorem dX1_makeNew_23 : decode cX1_makeNew 23 = .ok (.invokestatic 49, 3) := by decide +kernel
theorem dX1_makeNew_26 : decode cX1_makeNew 26 = .ok (.aload_n 0, 1) := by decide +kernel
theorem dX1_makeNew_27 : decode cX1_makeNew 27 = .ok (.getfield 28, 3) := by decide +kernel
theorem dX1_makeNew_30 : decode cX1_makeNew 30 = .ok (.iconst 0, 1) := by decide +kernel
theorem dX1_makeNew_31 : decode cX1_makeNew 31 = .ok (.invokestatic 49, 3) := by decide +kernel
theorem dX1_makeNew_34 : decode cX1_makeNew 34 = .ok (.aload_n 0, 1) := by decide +kernel
theorem dX1_makeNew_35 : decode cX1_makeNew 35 = .ok (.getfield 31, 3) := by decide +kernel
theorem dX1_makeNew_38 : decode cX1_makeNew 38 = .ok (.iconst 0, 1) := by decide +kernel
theorem dX1_makeNew_39 : decode cX1_makeNew 39 = .ok (.invokestatic 49, 3) := by decide +kernel
theorem dX1_makeNew_42 : decode cX1_makeNew 42 = .ok (.aload_n 0, 1) := by decide +kernel
theorem dX1_makeNew_43 : decode cX1_makeNew 43 = .ok (.getfield 37, 3) := by decide +kernel
theorem dX1_makeNew_46 : decode cX1_makeNew 46 = .ok (.iconst 0, 1) := by decide +kernel
theorem dX1_makeNew_47 : decode cX1_makeNew 47 = .ok (.invokestatic 49, 3) := by decide +kernel
theorem dX1_makeNew_50 : decode cX1_makeNew 50 = .ok (.return_, 1) := by decide +kernel
set_option maxRecDepth 20000 in
theorem ggX1_has_X4_isWithin : GoodIn wsX1_has wsX4_isWithin := goodIn_r _ [4] (by decide +kernel) (by decide +kernel)
set_option maxRecDepth 20000 in
theorem gX1_has_X4_isWithin_n55 : GoodIn wsX1_has (wsX4_isWithin) := ggX1_has_X4_isWithin
theorem dX1_has_0 : decode cX1_has 0 = .ok (.iload_n 1, 1) := by decide +kernel
theorem dX1_has_1 : decode cX1_has 1 = .ok (.iconst 0, 1) := by decide +kernel
theorem dX1_has_2 : decode cX1_has 2 = .ok (.aload_n 0, 1) := by decide +kernel
theorem dX1_has_3 : decode cX1_has 3 = .ok (.getfield 9, 3) := by decide +kernel
theorem dX1_has_6 : decode cX1_has 6 = .ok (.iconst 1, 1) := by decide +kernel
theorem dX1_has_7 : decode cX1_has 7 = .ok (.isub, 1) := by decide +kernel
theorem dX1_has_8 : decode cX1_has 8 = .ok (.invokestatic 55, 3) := by decide +kernel
theorem dX1_has_11 : decode cX1_has 11 = .ok (.ireturn, 1) := by decide +kernel
theorem dX1_putLevel_0 : decode cX1_putLevel 0 = .ok (.aload_n 0, 1) := by decide +kernel
theorem dX1_putLevel_1 : decode cX1_putLevel 1 = .ok (.getfield 37, 3) := by decide +kernel
theorem dX1_putLevel_4 : decode cX1_putLevel 4 = .ok (.bipush 6, 2) := by decide +kernel
theorem dX1_putLevel_6 : decode cX1_putLevel 6 = .ok (.dup2, 1) := by decide +kernel
theorem dX1_putLevel_7 : decode cX1_putLevel 7 = .ok (.iaload, 1) := by decide +kernel
theorem dX1_putLevel_8 : decode cX1_putLevel 8 = .ok (.iload_n 2, 1) := by decide +kernel
theorem dX1_putLevel_9 : decode cX1_putLevel 9 = .ok (.aload_n 0, 1) := by decide +kernel
theorem dX1_putLevel_10 : decode cX1_putLevel 10 = .ok (.getfield 22, 3) := by decide +kernel
theorem dX1_putLevel_13 : decode cX1_putLevel 13 = .ok (.iload_n 1, 1) := by decide +kernel
theorem dX1_putLevel_14 : decode cX1_putLevel 14 = .ok (.iaload, 1) := by decide +kernel
theorem dX1_putLevel_15 : decode cX1_putLevel 15 = .ok (.isub, 1) := by decide +kernel
theorem dX1_putLevel_16 : decode cX1_putLevel 16 = .ok (.iadd, 1) := by decide +kernel
theorem dX1_putLevel_17 : decode cX1_putLevel 17 = .ok (.iastore, 1) := by decide +kernel
theorem dX1_putLevel_18 : decode cX1_putLevel 18 = .ok (.aload_n 0, 1) := by decide +kernel
theorem dX1_putLevel_19 : decode cX1_putLevel 19 = .ok (.getfield 22, 3) := by decide +kernel
theorem dX1_putLevel_22 : decode cX1_putLevel 22 = .ok (.iload_n 1, 1) := by decide +kernel
theorem dX1_putLevel_23 : decode cX1_putLevel 23 = .ok (.iload_n 2, 1) := by decide +kernel
theorem dX1_putLevel_24 : decode cX1_putLevel 24 = .ok (.iastore, 1) := by decide +kernel
theorem dX1_putLevel_25 : decode cX1_putLevel 25 = .ok (.return_, 1) := by decide +kernel
theorem dX1_foul_0 : decode cX1_foul 0 = .ok (.aload_n 0, 1) := by decide +kernel
theorem dX1_foul_1 : decode cX1_foul 1 = .ok (.getfield 25, 3) := by decide +kernel
theorem dX1_foul_4 : decode cX1_foul 4 = .ok (.iload_n 1, 1) := by decide +kernel
theorem dX1_foul_5 : decode cX1_foul 5 = .ok (.bipush 100, 2) := by decide +kernel
theorem dX1_foul_7 : decode cX1_foul 7 = .ok (.aload_n 0, 1) := by decide +kernel
theorem dX1_foul_8 : decode cX1_foul 8 = .ok (.getfield 25, 3) := by decide +kernel
theorem dX1_foul_11 : decode cX1_foul 11 = .ok (.iload_n 1, 1) := by decide +kernel
theorem dX1_foul_12 : decode cX1_foul 12 = .ok (.iaload, 1) := by decide +kernel
theorem dX1_foul_13 : decode cX1_foul 13 = .ok (.iload_n 2, 1) := by decide +kernel
theorem dX1_foul_14 : decode cX1_foul 14 = .ok (.iadd, 1) := by decide +kernel
theorem dX1_foul_15 : decode cX1_foul 15 = .ok (.invokestatic 59, 3) := by decide +kernel
theorem dX1_foul_18 : decode cX1_foul 18 = .ok (.iastore, 1) := by decide +kernel
theorem dX1_foul_19 : decode cX1_foul 19 = .ok (.return_, 1) := by decide +kernel
theorem dX1_settle_0 : decode cX1_settle 0 = .ok (.iload_n 2, 1) := by decide +kernel
theorem dX1_settle_1 : decode cX1_settle 1 = .ok (.aload_n 0, 1) := by decide +kernel
theorem dX1_settle_2 : decode cX1_settle 2 = .ok (.getfield 22, 3) := by decide +kernel
theorem dX1_settle_5 : decode cX1_settle 5 = .ok (.iload_n 1, 1) := by decide +kernel
theorem dX1_settle_6 : decode cX1_settle 6 = .ok (.iaload, 1) := by decide +kernel
theorem dX1_settle_7 : decode cX1_settle 7 = .ok (.sipush (-9999), 3) := by decide +kernel
theorem dX1_settle_10 : decode cX1_settle 10 = .ok (.isub, 1) := by decide +kernel
theorem dX1_settle_11 : decode cX1_settle 11 = .ok (.invokestatic 59, 3) := by decide +kernel
theorem dX1_settle_14 : decode cX1_settle 14 = .ok (.istore_n 3, 1) := by decide +kernel
theorem dX1_settle_15 : decode cX1_settle 15 = .ok (.aload_n 0, 1) := by decide +kernel
theorem dX1_settle_16 : decode cX1_settle 16 = .ok (.getfield 22, 3) := by decide +kernel
theorem dX1_settle_19 : decode cX1_settle 19 = .ok (.iload_n 1, 1) := by decide +kernel
theorem dX1_settle_20 : decode cX1_settle 20 = .ok (.dup2, 1) := by decide +kernel
theorem dX1_settle_21 : decode cX1_settle 21 = .ok (.iaload, 1) := by decide +kernel
theorem dX1_settle_22 : decode cX1_settle 22 = .ok (.iload_n 3, 1) := by decide +kernel
theorem dX1_settle_23 : decode cX1_settle 23 = .ok (.isub, 1) := by decide +kernel
theorem dX1_settle_24 : decode cX1_settle 24 = .ok (.iastore, 1) := by decide +kernel
theorem dX1_settle_25 : decode cX1_settle 25 = .ok (.aload_n 0, 1) := by decide +kernel
theorem dX1_settle_26 : decode cX1_settle 26 = .ok (.getfield 28, 3) := by decide +kernel
theorem dX1_settle_29 : decode cX1_settle 29 = .ok (.iload_n 1, 1) := by decide +kernel
theorem dX1_settle_30 : decode cX1_settle 30 = .ok (.dup2, 1) := by decide +kernel
theorem dX1_settle_31 : decode cX1_settle 31 = .ok (.iaload, 1) := by decide +kernel
theorem dX1_settle_32 : decode cX1_settle 32 = .ok (.iload_n 3, 1) := by decide +kernel
theorem dX1_settle_33 : decode cX1_settle 33 = .ok (.iadd, 1) := by decide +kernel
theorem dX1_settle_34 : decode cX1_settle 34 = .ok (.iastore, 1) := by decide +kernel
theorem dX1_settle_35 : decode cX1_settle 35 = .ok (.aload_n 0, 1) := by decide +kernel
theorem dX1_settle_36 : decode cX1_settle 36 = .ok (.getfield 37, 3) := by decide +kernel
theorem dX1_settle_39 : decode cX1_settle 39 = .ok (.iconst 0, 1) := by decide +kernel
theorem dX1_settle_40 : decode cX1_settle 40 = .ok (.dup2, 1) := by decide +kernel
theorem dX1_settle_41 : decode cX1_settle 41 = .ok (.iaload, 1) := by decide +kernel
theorem dX1_settle_42 : decode cX1_settle 42 = .ok (.iload_n 3, 1) := by decide +kernel
theorem dX1_settle_43 : decode cX1_settle 43 = .ok (.iadd, 1) := by decide +kernel
theorem dX1_settle_44 : decode cX1_settle 44 = .ok (.iastore, 1) := by decide +kernel
theorem dX1_settle_45 : decode cX1_settle 45 = .ok (.return_, 1) := by decide +kernel
set_option maxRecDepth 20000 in
theorem ggX1_raise_X1_foul : GoodIn wsX1_raise wsX1_foul := goodIn_r _ [8, 9, 10, 11, 12, 13, 14, 15, 16, 17, 18, 19, 20, 21, 22] (by decide +kernel) (by decide +kernel)
set_option maxRecDepth 20000 in
theorem gX1_raise_X1_foul : GoodIn wsX1_raise (wsV RX1 65 RX1 yX1_foul wsX1_foul) := goodIn_app (goodIn_of _ (by decide +kernel)) ggX1_raise_X1_foul
theorem dX1_raise_0 : decode cX1_raise 0 = .ok (.aload_n 0, 1) := by decide +kernel
theorem dX1_raise_1 : decode cX1_raise 1 = .ok (.getfield 22, 3) := by decide +kernel
theorem dX1_raise_4 : decode cX1_raise 4 = .ok (.iload_n 1, 1) := by decide +kernel
theorem dX1_raise_5 : decode cX1_raise 5 = .ok (.dup2, 1) := by decide +kernel
theorem dX1_raise_6 : decode cX1_raise 6 = .ok (.iaload, 1) := by decide +kernel
theorem dX1_raise_7 : decode cX1_raise 7 = .ok (.iload_n 2, 1) := by decide +kernel
theorem dX1_raise_8 : decode cX1_raise 8 = .ok (.iadd, 1) := by decide +kernel
theorem dX1_raise_9 : decode cX1_raise 9 = .ok (.iastore, 1) := by decide +kernel
theorem dX1_raise_10 : decode cX1_raise 10 = .ok (.aload_n 0, 1) := by decide +kernel
theorem dX1_raise_11 : decode cX1_raise 11 = .ok (.getfield 31, 3) := by decide +kernel
theorem dX1_raise_14 : decode cX1_raise 14 = .ok (.iload_n 1, 1) := by decide +kernel
theorem dX1_raise_15 : decode cX1_raise 15 = .ok (.dup2, 1) := by decide +kernel
theorem dX1_raise_16 : decode cX1_raise 16 = .ok (.iaload, 1) := by decide +kernel
theorem dX1_raise_17 : decode cX1_raise 17 = .ok (.iload_n 2, 1) := by decide +kernel
theorem dX1_raise_18 : decode cX1_raise 18 = .ok (.iadd, 1) := by decide +kernel
theorem dX1_raise_19 : decode cX1_raise 19 = .ok (.iastore, 1) := by decide +kernel
theorem dX1_raise_20 : decode cX1_raise 20 = .ok (.aload_n 0, 1) := by decide +kernel
theorem dX1_raise_21 : decode cX1_raise 21 = .ok (.getfield 37, 3) := by decide +kernel
theorem dX1_raise_24 : decode cX1_raise 24 = .ok (.iconst 1, 1) := by decide +kernel
theorem dX1_raise_25 : decode cX1_raise 25 = .ok (.dup2, 1) := by decide +kernel
theorem dX1_raise_26 : decode cX1_raise 26 = .ok (.iaload, 1) := by decide +kernel
theorem dX1_raise_27 : decode cX1_raise 27 = .ok (.iload_n 2, 1) := by decide +kernel
theorem dX1_raise_28 : decode cX1_raise 28 = .ok (.iadd, 1) := by decide +kernel
theorem dX1_raise_29 : decode cX1_raise 29 = .ok (.iastore, 1) := by decide +kernel
theorem dX1_raise_30 : decode cX1_raise 30 = .ok (.aload_n 0, 1) := by decide +kernel
theorem dX1_raise_31 : decode cX1_raise 31 = .ok (.iload_n 1, 1) := by decide +kernel
theorem dX1_raise_32 : decode cX1_raise 32 = .ok (.iconst 3, 1) := by decide +kernel
theorem dX1_raise_33 : decode cX1_raise 33 = .ok (.invokevirtual 65, 3) := by decide +kernel
theorem dX1_raise_36 : decode cX1_raise 36 = .ok (.return_, 1) := by decide +kernel
theorem dX1_liftOf_0 : decode cX1_liftOf 0 = .ok (.iload_n 2, 1) := by decide +kernel
theorem dX1_liftOf_1 : decode cX1_liftOf 1 = .ok (.aload_n 0, 1) := by decide +kernel
theorem dX1_liftOf_2 : decode cX1_liftOf 2 = .ok (.getfield 22, 3) := by decide +kernel
theorem dX1_liftOf_5 : decode cX1_liftOf 5 = .ok (.iload_n 1, 1) := by decide +kernel
theorem dX1_liftOf_6 : decode cX1_liftOf 6 = .ok (.iaload, 1) := by decide +kernel
theorem dX1_liftOf_7 : decode cX1_liftOf 7 = .ok (.isub, 1) := by decide +kernel
theorem dX1_liftOf_8 : decode cX1_liftOf 8 = .ok (.aload_n 0, 1) := by decide +kernel
theorem dX1_liftOf_9 : decode cX1_liftOf 9 = .ok (.getfield 18, 3) := by decide +kernel
theorem dX1_liftOf_12 : decode cX1_liftOf 12 = .ok (.bipush 6, 2) := by decide +kernel
theorem dX1_liftOf_14 : decode cX1_liftOf 14 = .ok (.iaload, 1) := by decide +kernel
theorem dX1_liftOf_15 : decode cX1_liftOf 15 = .ok (.invokestatic 59, 3) := by decide +kernel
theorem dX1_liftOf_18 : decode cX1_liftOf 18 = .ok (.istore_n 3, 1) := by decide +kernel
theorem dX1_liftOf_19 : decode cX1_liftOf 19 = .ok (.iload_n 3, 1) := by decide +kernel
theorem dX1_liftOf_20 : decode cX1_liftOf 20 = .ok (.aload_n 0, 1) := by decide +kernel
theorem dX1_liftOf_21 : decode cX1_liftOf 21 = .ok (.getfield 18, 3) := by decide +kernel
theorem dX1_liftOf_24 : decode cX1_liftOf 24 = .ok (.bipush 7, 2) := by decide +kernel
theorem dX1_liftOf_26 : decode cX1_liftOf 26 = .ok (.iaload, 1) := by decide +kernel
theorem dX1_liftOf_27 : decode cX1_liftOf 27 = .ok (.if_icmp .ge 7, 3) := by decide +kernel
theorem dX1_liftOf_30 : decode cX1_liftOf 30 = .ok (.iconst 0, 1) := by decide +kernel
theorem dX1_liftOf_31 : decode cX1_liftOf 31 = .ok (.goto 4, 3) := by decide +kernel
theorem dX1_liftOf_34 : decode cX1_liftOf 34 = .ok (.iload_n 3, 1) := by decide +kernel
theorem dX1_liftOf_35 : decode cX1_liftOf 35 = .ok (.ireturn, 1) := by decide +kernel
theorem dX1_jobValue_0 : decode cX1_jobValue 0 = .ok (.aload_n 0, 1) := by decide +kernel
theorem dX1_jobValue_1 : decode cX1_jobValue 1 = .ok (.getfield 34, 3) := by decide +kernel
theorem dX1_jobValue_4 : decode cX1_jobValue 4 = .ok (.iload_n 1, 1) := by decide +kernel
theorem dX1_jobValue_5 : decode cX1_jobValue 5 = .ok (.iconst 4, 1) := by decide +kernel
theorem dX1_jobValue_6 : decode cX1_jobValue 6 = .ok (.imul, 1) := by decide +kernel
theorem dX1_jobValue_7 : decode cX1_jobValue 7 = .ok (.iload_n 2, 1) := by decide +kernel
theorem dX1_jobValue_8 : decode cX1_jobValue 8 = .ok (.iadd, 1) := by decide +kernel
theorem dX1_jobValue_9 : decode cX1_jobValue 9 = .ok (.iaload, 1) := by decide +kernel
theorem dX1_jobValue_10 : decode cX1_jobValue 10 = .ok (.ireturn, 1) := by decide +kernel
theorem dX1_appendJob_0 : decode cX1_appendJob 0 = .ok (.aload_n 0, 1) := by decide +kernel
theorem dX1_appendJob_1 : decode cX1_appendJob 1 = .ok (.getfield 15, 3) := by decide +kernel
theorem dX1_appendJob_4 : decode cX1_appendJob 4 = .ok (.iconst 4, 1) := by decide +kernel
theorem dX1_appendJob_5 : decode cX1_appendJob 5 = .ok (.imul, 1) := by decide +kernel
theorem dX1_appendJob_6 : decode cX1_appendJob 6 = .ok (.istore 4, 2) := by decide +kernel
theorem dX1_appendJob_8 : decode cX1_appendJob 8 = .ok (.aload_n 0, 1) := by decide +kernel
theorem dX1_appendJob_9 : decode cX1_appendJob 9 = .ok (.getfield 34, 3) := by decide +kernel
theorem dX1_appendJob_12 : decode cX1_appendJob 12 = .ok (.iload 4, 2) := by decide +kernel
theorem dX1_appendJob_14 : decode cX1_appendJob 14 = .ok (.iconst 0, 1) := by decide +kernel
theorem dX1_appendJob_15 : decode cX1_appendJob 15 = .ok (.iadd, 1) := by decide +kernel
theorem dX1_appendJob_16 : decode cX1_appendJob 16 = .ok (.iload_n 1, 1) := by decide +kernel
theorem dX1_appendJob_17 : decode cX1_appendJob 17 = .ok (.iastore, 1) := by decide +kernel
theorem dX1_appendJob_18 : decode cX1_appendJob 18 = .ok (.aload_n 0, 1) := by decide +kernel
theorem dX1_appendJob_19 : decode cX1_appendJob 19 = .ok (.getfield 34, 3) := by decide +kernel
theorem dX1_appendJob_22 : decode cX1_appendJob 22 = .ok (.iload 4, 2) := by decide +kernel
theorem dX1_appendJob_24 : decode cX1_appendJob 24 = .ok (.iconst 1, 1) := by decide +kernel
theorem dX1_appendJob_25 : decode cX1_appendJob 25 = .ok (.iadd, 1) := by decide +kernel
theorem dX1_appendJob_26 : decode cX1_appendJob 26 = .ok (.iload_n 2, 1) := by decide +kernel
theorem dX1_appendJob_27 : decode cX1_appendJob 27 = .ok (.iastore, 1) := by decide +kernel
theorem dX1_appendJob_28 : decode cX1_appendJob 28 = .ok (.aload_n 0, 1) := by decide +kernel
theorem dX1_appendJob_29 : decode cX1_appendJob 29 = .ok (.getfield 34, 3) := by decide +kernel
theorem dX1_appendJob_32 : decode cX1_appendJob 32 = .ok (.iload 4, 2) := by decide +kernel
theorem dX1_appendJob_34 : decode cX1_appendJob 34 = .ok (.iconst 2, 1) := by decide +kernel
theorem dX1_appendJob_35 : decode cX1_appendJob 35 = .ok (.iadd, 1) := by decide +kernel
theorem dX1_appendJob_36 : decode cX1_appendJob 36 = .ok (.iload_n 3, 1) := by decide +kernel
theorem dX1_appendJob_37 : decode cX1_appendJob 37 = .ok (.iastore, 1) := by decide +kernel
theorem dX1_appendJob_38 : decode cX1_appendJob 38 = .ok (.aload_n 0, 1) := by decide +kernel
theorem dX1_appendJob_39 : decode cX1_appendJob 39 = .ok (.getfield 34, 3) := by decide +kernel
theorem dX1_appendJob_42 : decode cX1_appendJob 42 = .ok (.iload 4, 2) := by decide +kernel
theorem dX1_appendJob_44 : decode cX1_appendJob 44 = .ok (.iconst 3, 1) := by decide +kernel
theorem dX1_appendJob_45 : decode cX1_appendJob 45 = .ok (.iadd, 1) := by decide +kernel
theorem dX1_appendJob_46 : decode cX1_appendJob 46 = .ok (.iload_n 1, 1) := by decide +kernel
theorem dX1_appendJob_47 : decode cX1_appendJob 47 = .ok (.iastore, 1) := by decide +kernel
theorem dX1_appendJob_48 : decode cX1_appendJob 48 = .ok (.aload_n 0, 1) := by decide +kernel
theorem dX1_appendJob_49 : decode cX1_appendJob 49 = .ok (.dup, 1) := by decide +kernel
theorem dX1_appendJob_50 : decode cX1_appendJob 50 = .ok (.getfield 15, 3) := by decide +kernel
theorem dX1_appendJob_53 : decode cX1_appendJob 53 = .ok (.iconst 1, 1) := by decide +kernel
theorem dX1_appendJob_54 : decode cX1_appendJob 54 = .ok (.iadd, 1) := by decide +kernel
theorem dX1_appendJob_55 : decode cX1_appendJob 55 = .ok (.putfield 15, 3) := by decide +kernel
theorem dX1_appendJob_58 : decode cX1_appendJob 58 = .ok (.return_, 1) := by decide +kernel
theorem dX1_removeJob_0 : decode cX1_removeJob 0 = .ok (.iload_n 1, 1) := by decide +kernel
theorem dX1_removeJob_1 : decode cX1_removeJob 1 = .ok (.iconst 1, 1) := by decide +kernel
theorem dX1_removeJob_2 : decode cX1_removeJob 2 = .ok (.iadd, 1) := by decide +kernel
theorem dX1_removeJob_3 : decode cX1_removeJob 3 = .ok (.iconst 4, 1) := by decide +kernel
theorem dX1_removeJob_4 : decode cX1_removeJob 4 = .ok (.imul, 1) := by decide +kernel
theorem dX1_removeJob_5 : decode cX1_removeJob 5 = .ok (.istore_n 2, 1) := by decide +kernel
theorem dX1_removeJob_6 : decode cX1_removeJob 6 = .ok (.aload_n 0, 1) := by decide +kernel
theorem dX1_removeJob_7 : decode cX1_removeJob 7 = .ok (.getfield 34, 3) := by decide +kernel
theorem dX1_removeJob_10 : decode cX1_removeJob 10 = .ok (.iload_n 2, 1) := by decide +kernel
theorem dX1_removeJob_11 : decode cX1_removeJob 11 = .ok (.aload_n 0, 1) := by decide +kernel
theorem dX1_removeJob_12 : decode cX1_removeJob 12 = .ok (.getfield 34, 3) := by decide +kernel
theorem dX1_removeJob_15 : decode cX1_removeJob 15 = .ok (.iload_n 1, 1) := by decide +kernel
theorem dX1_removeJob_16 : decode cX1_removeJob 16 = .ok (.iconst 4, 1) := by decide +kernel
theorem dX1_removeJob_17 : decode cX1_removeJob 17 = .ok (.imul, 1) := by decide +kernel
theorem dX1_removeJob_18 : decode cX1_removeJob 18 = .ok (.aload_n 0, 1) := by decide +kernel
theorem dX1_removeJob_19 : decode cX1_removeJob 19 = .ok (.getfield 15, 3) := by decide +kernel
theorem dX1_removeJob_22 : decode cX1_removeJob 22 = .ok (.iconst 4, 1) := by decide +kernel
theorem dX1_removeJob_23 : decode cX1_removeJob 23 = .ok (.imul, 1) := by decide +kernel
theorem dX1_removeJob_24 : decode cX1_removeJob 24 = .ok (.iload_n 2, 1) := by decide +kernel
theorem dX1_removeJob_25 : decode cX1_removeJob 25 = .ok (.isub, 1) := by decide +kernel
theorem dX1_removeJob_26 : decode cX1_removeJob 26 = .ok (.invokestatic 43, 3) := by decide +kernel
theorem dX1_removeJob_29 : decode cX1_removeJob 29 = .ok (.aload_n 0, 1) := by decide +kernel
theorem dX1_removeJob_30 : decode cX1_removeJob 30 = .ok (.dup, 1) := by decide +kernel
theorem dX1_removeJob_31 : decode cX1_removeJob 31 = .ok (.getfield 15, 3) := by decide +kernel
theorem dX1_removeJob_34 : decode cX1_removeJob 34 = .ok (.iconst 1, 1) := by decide +kernel
theorem dX1_removeJob_35 : decode cX1_removeJob 35 = .ok (.isub, 1) := by decide +kernel
theorem dX1_removeJob_36 : decode cX1_removeJob 36 = .ok (.putfield 15, 3) := by decide +kernel
theorem dX1_removeJob_39 : decode cX1_removeJob 39 = .ok (.return_, 1) := by decide +kernel
set_option maxRecDepth 20000 in
theorem ggX1_tamp_X1_jobValue : GoodIn wsX1_tamp wsX1_jobValue := goodIn_r _ [7, 8, 44, 45, 46, 47, 48, 49, 50, 51, 52] (by decide +kernel) (by decide +kernel)
set_option maxRecDepth 20000 in
theorem gX1_tamp_X1_jobValue : GoodIn wsX1_tamp (wsV RX1 69 RX1 yX1_jobValue wsX1_jobValue) := goodIn_app (goodIn_of _ (by decide +kernel)) ggX1_tamp_X1_jobValue
set_option maxRecDepth 20000 in
theorem ggX1_tamp_X1_liftOf : GoodIn wsX1_tamp wsX1_liftOf := goodIn_r _ [12, 13, 14, 15, 16, 17, 18, 44, 45, 46, 47, 48, 49, 50, 51, 52] (by decide +kernel) (by decide +kernel)
set_option maxRecDepth 20000 in
theorem gX1_tamp_X1_liftOf : GoodIn wsX1_tamp (wsV RX1 72 RX1 yX1_liftOf wsX1_liftOf) := goodIn_app (goodIn_of _ (by decide +kernel)) ggX1_tamp_X1_liftOf
set_option maxRecDepth 20000 in
theorem ggX1_tamp_X4_minutesFor : GoodIn wsX1_tamp wsX4_minutesFor := goodIn_r _ [21] (by decide +kernel) (by decide +kernel)
set_option maxRecDepth 20000 in
theorem gX1_tamp_X4_minutesFor_n75 : GoodIn wsX1_tamp (wsX4_minutesFor) := ggX1_tamp_X4_minutesFor
set_option maxRecDepth 20000 in
theorem ggX1_tamp_X1_raise : GoodIn wsX1_tamp wsX1_raise := goodIn_r _ [25, 13, 26, 2, 27, 28, 29, 6, 30, 31, 15, 16, 17, 18, 44, 45, 46, 47, 48, 49, 50, 51, 52] (by decide +kernel) (by decide +kernel)
set_option maxRecDepth 20000 in
theorem gX1_tamp_X1_raise : GoodIn wsX1_tamp (wsV RX1 79 RX1 yX1_raise wsX1_raise) := goodIn_app (goodIn_of _ (by decide +kernel)) ggX1_tamp_X1_raise
set_option maxRecDepth 20000 in
theorem ggX1_tamp_X1_goOn : GoodIn wsX1_tamp wsX1_goOn := goodIn_r _ [35, 8, 36, 37, 38, 6, 39, 1, 40, 41, 42, 43, 44, 45, 46, 47, 48, 49, 50, 51, 52] (by decide +kernel) (by decide +kernel)
set_option maxRecDepth 20000 in
theorem gX1_tamp_X1_goOn : GoodIn wsX1_tamp (wsV RX1 82 RX1 yX1_goOn wsX1_goOn) := goodIn_app (goodIn_of _ (by decide +kernel)) ggX1_tamp_X1_goOn
theorem dX1_tamp_0 : decode cX1_tamp 0 = .ok (.iload_n 1, 1) := by decide +kernel
theorem dX1_tamp_1 : decode cX1_tamp 1 = .ok (.istore_n 2, 1) := by decide +kernel
theorem dX1_tamp_2 : decode cX1_tamp 2 = .ok (.iconst 0, 1) := by decide +kernel
theorem dX1_tamp_3 : decode cX1_tamp 3 = .ok (.istore_n 3, 1) := by decide +kernel
theorem dX1_tamp_4 : decode cX1_tamp 4 = .ok (.iconst 0, 1) := by decide +kernel
theorem dX1_tamp_5 : decode cX1_tamp 5 = .ok (.istore 4, 2) := by decide +kernel
theorem dX1_tamp_7 : decode cX1_tamp 7 = .ok (.iload 4, 2) := by decide +kernel
theorem dX1_tamp_9 : decode cX1_tamp 9 = .ok (.sipush 360, 3) := by decide +kernel
theorem dX1_tamp_12 : decode cX1_tamp 12 = .ok (.if_icmp .ge 78, 3) := by decide +kernel
theorem dX1_tamp_15 : decode cX1_tamp 15 = .ok (.aload_n 0, 1) := by decide +kernel
theorem dX1_tamp_16 : decode cX1_tamp 16 = .ok (.getfield 15, 3) := by decide +kernel
theorem dX1_tamp_19 : decode cX1_tamp 19 = .ok (.ifCond .le 71, 3) := by decide +kernel
theorem dX1_tamp_22 : decode cX1_tamp 22 = .ok (.aload_n 0, 1) := by decide +kernel
theorem dX1_tamp_23 : decode cX1_tamp 23 = .ok (.iconst 0, 1) := by decide +kernel
theorem dX1_tamp_24 : decode cX1_tamp 24 = .ok (.iconst 3, 1) := by decide +kernel
theorem dX1_tamp_25 : decode cX1_tamp 25 = .ok (.invokevirtual 69, 3) := by decide +kernel
theorem dX1_tamp_28 : decode cX1_tamp 28 = .ok (.istore 5, 2) := by decide +kernel
theorem dX1_tamp_30 : decode cX1_tamp 30 = .ok (.aload_n 0, 1) := by decide +kernel
theorem dX1_tamp_31 : decode cX1_tamp 31 = .ok (.iload 5, 2) := by decide +kernel
theorem dX1_tamp_33 : decode cX1_tamp 33 = .ok (.aload_n 0, 1) := by decide +kernel
theorem dX1_tamp_34 : decode cX1_tamp 34 = .ok (.iconst 0, 1) := by decide +kernel
theorem dX1_tamp_35 : decode cX1_tamp 35 = .ok (.iconst 2, 1) := by decide +kernel
theorem dX1_tamp_36 : decode cX1_tamp 36 = .ok (.invokevirtual 69, 3) := by decide +kernel
theorem dX1_tamp_39 : decode cX1_tamp 39 = .ok (.invokevirtual 72, 3) := by decide +kernel
theorem dX1_tamp_42 : decode cX1_tamp 42 = .ok (.istore 6, 2) := by decide +kernel
theorem dX1_tamp_44 : decode cX1_tamp 44 = .ok (.iload 6, 2) := by decide +kernel
theorem dX1_tamp_46 : decode cX1_tamp 46 = .ok (.ifCond .le 34, 3) := by decide +kernel
theorem dX1_tamp_49 : decode cX1_tamp 49 = .ok (.iload 6, 2) := by decide +kernel
theorem dX1_tamp_51 : decode cX1_tamp 51 = .ok (.invokestatic 75, 3) := by decide +kernel
theorem dX1_tamp_54 : decode cX1_tamp 54 = .ok (.iload_n 2, 1) := by decide +kernel
theorem dX1_tamp_55 : decode cX1_tamp 55 = .ok (.if_icmp .le 6, 3) := by decide +kernel
theorem dX1_tamp_58 : decode cX1_tamp 58 = .ok (.goto 32, 3) := by decide +kernel
theorem dX1_tamp_61 : decode cX1_tamp 61 = .ok (.iload_n 2, 1) := by decide +kernel
theorem dX1_tamp_62 : decode cX1_tamp 62 = .ok (.iload 6, 2) := by decide +kernel
theorem dX1_tamp_64 : decode cX1_tamp 64 = .ok (.invokestatic 75, 3) := by decide +kernel
theorem dX1_tamp_67 : decode cX1_tamp 67 = .ok (.isub, 1) := by decide +kernel
theorem dX1_tamp_68 : decode cX1_tamp 68 = .ok (.istore_n 2, 1) := by decide +kernel
theorem dX1_tamp_69 : decode cX1_tamp 69 = .ok (.aload_n 0, 1) := by decide +kernel
theorem dX1_tamp_70 : decode cX1_tamp 70 = .ok (.iload 5, 2) := by decide +kernel
theorem dX1_tamp_72 : decode cX1_tamp 72 = .ok (.iload 6, 2) := by decide +kernel
theorem dX1_tamp_74 : decode cX1_tamp 74 = .ok (.invokevirtual 79, 3) := by decide +kernel
theorem dX1_tamp_77 : decode cX1_tamp 77 = .ok (.iinc 3 1, 3) := by decide +kernel
theorem dX1_tamp_80 : decode cX1_tamp 80 = .ok (.aload_n 0, 1) := by decide +kernel
theorem dX1_tamp_81 : decode cX1_tamp 81 = .ok (.invokevirtual 82, 3) := by decide +kernel
theorem dX1_tamp_84 : decode cX1_tamp 84 = .ok (.iinc 4 1, 3) := by decide +kernel
theorem dX1_tamp_87 : decode cX1_tamp 87 = .ok (.goto (-80), 3) := by decide +kernel
theorem dX1_tamp_90 : decode cX1_tamp 90 = .ok (.aload_n 0, 1) := by decide +kernel
theorem dX1_tamp_91 : decode cX1_tamp 91 = .ok (.getfield 37, 3) := by decide +kernel
theorem dX1_tamp_94 : decode cX1_tamp 94 = .ok (.iconst 3, 1) := by decide +kernel
theorem dX1_tamp_95 : decode cX1_tamp 95 = .ok (.dup2, 1) := by decide +kernel
theorem dX1_tamp_96 : decode cX1_tamp 96 = .ok (.iaload, 1) := by decide +kernel
theorem dX1_tamp_97 : decode cX1_tamp 97 = .ok (.iload_n 1, 1) := by decide +kernel
theorem dX1_tamp_98 : decode cX1_tamp 98 = .ok (.iload_n 2, 1) := by decide +kernel
theorem dX1_tamp_99 : decode cX1_tamp 99 = .ok (.isub, 1) := by decide +kernel
theorem dX1_tamp_100 : decode cX1_tamp 100 = .ok (.iadd, 1) := by decide +kernel
theorem dX1_tamp_101 : decode cX1_tamp 101 = .ok (.iastore, 1) := by decide +kernel
theorem dX1_tamp_102 : decode cX1_tamp 102 = .ok (.iload_n 3, 1) := by decide +kernel
theorem dX1_tamp_103 : decode cX1_tamp 103 = .ok (.ireturn, 1) := by decide +kernel
set_option maxRecDepth 20000 in
theorem ggX1_goOn_X1_removeJob : GoodIn wsX1_goOn wsX1_removeJob := goodIn_r _ [6, 1, 7, 8, 9, 10, 11, 12, 13, 14, 15, 16, 17, 18, 19, 20] (by decide +kernel) (by decide +kernel)
set_option maxRecDepth 20000 in
theorem gX1_goOn_X1_removeJob : GoodIn wsX1_goOn (wsV RX1 85 RX1 yX1_removeJob wsX1_removeJob) := goodIn_app (goodIn_of _ (by decide +kernel)) ggX1_goOn_X1_removeJob
theorem dX1_goOn_0 : decode cX1_goOn 0 = .ok (.aload_n 0, 1) := by decide +kernel
theorem dX1_goOn_1 : decode cX1_goOn 1 = .ok (.getfield 34, 3) := by decide +kernel
theorem dX1_goOn_4 : decode cX1_goOn 4 = .ok (.iconst 3, 1) := by decide +kernel
theorem dX1_goOn_5 : decode cX1_goOn 5 = .ok (.iaload, 1) := by decide +kernel
theorem dX1_goOn_6 : decode cX1_goOn 6 = .ok (.aload_n 0, 1) := by decide +kernel
theorem dX1_goOn_7 : decode cX1_goOn 7 = .ok (.getfield 34, 3) := by decide +kernel
theorem dX1_goOn_10 : decode cX1_goOn 10 = .ok (.iconst 1, 1) := by decide +kernel
theorem dX1_goOn_11 : decode cX1_goOn 11 = .ok (.iaload, 1) := by decide +kernel
theorem dX1_goOn_12 : decode cX1_goOn 12 = .ok (.if_icmp .ge 16, 3) := by decide +kernel
theorem dX1_goOn_15 : decode cX1_goOn 15 = .ok (.aload_n 0, 1) := by decide +kernel
theorem dX1_goOn_16 : decode cX1_goOn 16 = .ok (.getfield 34, 3) := by decide +kernel
theorem dX1_goOn_19 : decode cX1_goOn 19 = .ok (.iconst 3, 1) := by decide +kernel
theorem dX1_goOn_20 : decode cX1_goOn 20 = .ok (.dup2, 1) := by decide +kernel
theorem dX1_goOn_21 : decode cX1_goOn 21 = .ok (.iaload, 1) := by decide +kernel
theorem dX1_goOn_22 : decode cX1_goOn 22 = .ok (.iconst 1, 1) := by decide +kernel
theorem dX1_goOn_23 : decode cX1_goOn 23 = .ok (.iadd, 1) := by decide +kernel
theorem dX1_goOn_24 : decode cX1_goOn 24 = .ok (.iastore, 1) := by decide +kernel
theorem dX1_goOn_25 : decode cX1_goOn 25 = .ok (.goto 8, 3) := by decide +kernel
theorem dX1_goOn_28 : decode cX1_goOn 28 = .ok (.aload_n 0, 1) := by decide +kernel
theorem dX1_goOn_29 : decode cX1_goOn 29 = .ok (.iconst 0, 1) := by decide +kernel
theorem dX1_goOn_30 : decode cX1_goOn 30 = .ok (.invokevirtual 85, 3) := by decide +kernel
theorem dX1_goOn_33 : decode cX1_goOn 33 = .ok (.return_, 1) := by decide +kernel
theorem dX2_init_0 : decode cX2_init 0 = .ok (.aload_n 0, 1) := by decide +kernel
theorem dX2_init_1 : decode cX2_init 1 = .ok (.invokespecial 3, 3) := by decide +kernel
theorem dX2_init_4 : decode cX2_init 4 = .ok (.aload_n 0, 1) := by decide +kernel
theorem dX2_init_5 : decode cX2_init 5 = .ok (.bipush 60, 2) := by decide +kernel
theorem dX2_init_7 : decode cX2_init 7 = .ok (.newarray .int, 2) := by decide +kernel
theorem dX2_init_9 : decode cX2_init 9 = .ok (.putfield 9, 3) := by decide +kernel
theorem dX2_init_12 : decode cX2_init 12 = .ok (.aload_n 0, 1) := by decide +kernel
theorem dX2_init_13 : decode cX2_init 13 = .ok (.bipush 60, 2) := by decide +kernel
theorem dX2_init_15 : decode cX2_init 15 = .ok (.newarray .int, 2) := by decide +kernel
theorem dX2_init_17 : decode cX2_init 17 = .ok (.putfield 15, 3) := by decide +kernel
theorem dX2_init_20 : decode cX2_init 20 = .ok (.aload_n 0, 1) := by decide +kernel
theorem dX2_init_21 : decode cX2_init 21 = .ok (.bipush 60, 2) := by decide +kernel
theorem dX2_init_23 : decode cX2_init 23 = .ok (.newarray .boolean, 2) := by decide +kernel
theorem dX2_init_25 : decode cX2_init 25 = .ok (.putfield 18, 3) := by decide +kernel
theorem dX2_init_28 : decode cX2_init 28 = .ok (.aload_n 0, 1) := by decide +kernel
theorem dX2_init_29 : decode cX2_init 29 = .ok (.iconst 0, 1) := by decide +kernel
theorem dX2_init_30 : decode cX2_init 30 = .ok (.putfield 22, 3) := by decide +kernel
theorem dX2_init_33 : decode cX2_init 33 = .ok (.aload_n 0, 1) := by decide +kernel
theorem dX2_init_34 : decode cX2_init 34 = .ok (.iconst 0, 1) := by decide +kernel
theorem dX2_init_35 : decode cX2_init 35 = .ok (.putfield 26, 3) := by decide +kernel
theorem dX2_init_38 : decode cX2_init 38 = .ok (.aload_n 0, 1) := by decide +kernel
theorem dX2_init_39 : decode cX2_init 39 = .ok (.iconst 0, 1) := by decide +kernel
theorem dX2_init_40 : decode cX2_init 40 = .ok (.putfield 29, 3) := by decide +kernel
theorem dX2_init_43 : decode cX2_init 43 = .ok (.aload_n 0, 1) := by decide +kernel
theorem dX2_init_44 : decode cX2_init 44 = .ok (.iconst 0, 1) := by decide +kernel
theorem dX2_init_45 : decode cX2_init 45 = .ok (.putfield 32, 3) := by decide +kernel
theorem dX2_init_48 : decode cX2_init 48 = .ok (.aload_n 0, 1) := by decide +kernel
theorem dX2_init_49 : decode cX2_init 49 = .ok (.aload_n 1, 1) := by decide +kernel
theorem dX2_init_50 : decode cX2_init 50 = .ok (.putfield 35, 3) := by decide +kernel
theorem dX2_init_53 : decode cX2_init 53 = .ok (.return_, 1) := by decide +kernel
set_option maxRecDepth 20000 in
theorem ggX2_look_X2_findHeights : GoodIn wsX2_look wsX2_findHeights := goodIn_r _ [7, 8, 9, 10, 11, 12, 13, 14, 15, 16, 46, 47, 48, 49, 50, 51, 52, 53, 54, 55, 56, 57, 58, 59, 60, 61, 62] (by decide +kernel) (by decide +kernel)
set_option maxRecDepth 20000 in
theorem gX2_look_X2_findHeights : GoodIn wsX2_look (wsV RX2 39 RX2 yX2_findHeights wsX2_findHeights) := goodIn_app (goodIn_of _ (by decide +kernel)) ggX2_look_X2_findHeights
set_option maxRecDepth 20000 in
theorem ggX2_look_X2_findHanging : GoodIn wsX2_look wsX2_findHanging := goodIn_r _ [20, 21, 8, 10, 22, 9, 23, 24, 25, 6, 26, 16, 11, 46, 47, 48, 49, 50, 51, 52, 53, 54, 55, 56, 57, 58, 59, 60, 61, 62] (by decide +kernel) (by decide +kernel)
set_option maxRecDepth 20000 in
theorem gX2_look_X2_findHanging : GoodIn wsX2_look (wsV RX2 42 RX2 yX2_findHanging wsX2_findHanging) := goodIn_app (goodIn_of _ (by decide +kernel)) ggX2_look_X2_findHanging
set_option maxRecDepth 20000 in
theorem ggX2_look_X2_findWorst : GoodIn wsX2_look wsX2_findWorst := goodIn_r _ [30, 31, 1, 8, 10, 32, 33, 14, 34, 35, 36, 37, 6, 38, 9, 16, 39, 40, 41, 46, 47, 48, 49, 50, 51, 52, 53, 54, 55, 56, 57, 58, 59, 60, 61, 62] (by decide +kernel) (by decide +kernel)
set_option maxRecDepth 20000 in
theorem gX2_look_X2_findWorst : GoodIn wsX2_look (wsV RX2 45 RX2 yX2_findWorst wsX2_findWorst) := goodIn_app (goodIn_of _ (by decide +kernel)) ggX2_look_X2_findWorst
set_option maxRecDepth 20000 in
theorem ggX2_look_X2_orderOf : GoodIn wsX2_look wsX2_orderOf := goodIn_r _ [45, 8, 9, 46, 47, 48, 49, 50, 51, 52, 53, 54, 55, 56, 57, 58, 59, 60, 61, 62] (by decide +kernel) (by decide +kernel)
set_option maxRecDepth 20000 in
theorem gX2_look_X2_orderOf : GoodIn wsX2_look (wsV RX2 48 RX2 yX2_orderOf wsX2_orderOf) := goodIn_app (goodIn_of _ (by decide +kernel)) ggX2_look_X2_orderOf
theorem dX2_look_0 : decode cX2_look 0 = .ok (.aload_n 0, 1) := by decide +kernel
theorem dX2_look_1 : decode cX2_look 1 = .ok (.invokevirtual 39, 3) := by decide +kernel
theorem dX2_look_4 : decode cX2_look 4 = .ok (.aload_n 0, 1) := by decide +kernel
theorem dX2_look_5 : decode cX2_look 5 = .ok (.invokevirtual 42, 3) := by decide +kernel
theorem dX2_look_8 : decode cX2_look 8 = .ok (.aload_n 0, 1) := by decide +kernel
theorem dX2_look_9 : decode cX2_look 9 = .ok (.invokevirtual 45, 3) := by decide +kernel
theorem dX2_look_12 : decode cX2_look 12 = .ok (.aload_n 0, 1) := by decide +kernel
theorem dX2_look_13 : decode cX2_look 13 = .ok (.aload_n 0, 1) := by decide +kernel
theorem dX2_look_14 : decode cX2_look 14 = .ok (.aload_n 0, 1) := by decide +kernel
theorem dX2_look_15 : decode cX2_look 15 = .ok (.getfield 29, 3) := by decide +kernel
theorem dX2_look_18 : decode cX2_look 18 = .ok (.invokevirtual 48, 3) := by decide +kernel
theorem dX2_look_21 : decode cX2_look 21 = .ok (.putfield 32, 3) := by decide +kernel
theorem dX2_look_24 : decode cX2_look 24 = .ok (.return_, 1) := by decide +kernel
theorem dX2_voidAt_0 : decode cX2_voidAt 0 = .ok (.aload_n 0, 1) := by decide +kernel
theorem dX2_voidAt_1 : decode cX2_voidAt 1 = .ok (.getfield 9, 3) := by decide +kernel
theorem dX2_voidAt_4 : decode cX2_voidAt 4 = .ok (.iload_n 1, 1) := by decide +kernel
theorem dX2_voidAt_5 : decode cX2_voidAt 5 = .ok (.iaload, 1) := by decide +kernel
theorem dX2_voidAt_6 : decode cX2_voidAt 6 = .ok (.aload_n 0, 1) := by decide +kernel
theorem dX2_voidAt_7 : decode cX2_voidAt 7 = .ok (.getfield 35, 3) := by decide +kernel
theorem dX2_voidAt_10 : decode cX2_voidAt 10 = .ok (.getfield 52, 3) := by decide +kernel
theorem dX2_voidAt_13 : decode cX2_voidAt 13 = .ok (.iload_n 1, 1) := by decide +kernel
theorem dX2_voidAt_14 : decode cX2_voidAt 14 = .ok (.iaload, 1) := by decide +kernel
theorem dX2_voidAt_15 : decode cX2_voidAt 15 = .ok (.isub, 1) := by decide +kernel
theorem dX2_voidAt_16 : decode cX2_voidAt 16 = .ok (.ireturn, 1) := by decide +kernel
set_option maxRecDepth 20000 in
theorem ggX2_defectAt_X4_isWithin : GoodIn wsX2_defectAt wsX4_isWithin := goodIn_r _ [7] (by decide +kernel) (by decide +kernel)
set_option maxRecDepth 20000 in
theorem gX2_defectAt_X4_isWithin_n63 : GoodIn wsX2_defectAt (wsX4_isWithin) := ggX2_defectAt_X4_isWithin
theorem dX2_defectAt_0 : decode cX2_defectAt 0 = .ok (.aload_n 0, 1) := by decide +kernel
theorem dX2_defectAt_1 : decode cX2_defectAt 1 = .ok (.getfield 35, 3) := by decide +kernel
theorem dX2_defectAt_4 : decode cX2_defectAt 4 = .ok (.getfield 57, 3) := by decide +kernel
theorem dX2_defectAt_7 : decode cX2_defectAt 7 = .ok (.iconst 2, 1) := by decide +kernel
theorem dX2_defectAt_8 : decode cX2_defectAt 8 = .ok (.iaload, 1) := by decide +kernel
theorem dX2_defectAt_9 : decode cX2_defectAt 9 = .ok (.istore_n 2, 1) := by decide +kernel
theorem dX2_defectAt_10 : decode cX2_defectAt 10 = .ok (.iload_n 1, 1) := by decide +kernel
theorem dX2_defectAt_11 : decode cX2_defectAt 11 = .ok (.iload_n 2, 1) := by decide +kernel
theorem dX2_defectAt_12 : decode cX2_defectAt 12 = .ok (.aload_n 0, 1) := by decide +kernel
theorem dX2_defectAt_13 : decode cX2_defectAt 13 = .ok (.getfield 35, 3) := by decide +kernel
theorem dX2_defectAt_16 : decode cX2_defectAt 16 = .ok (.getfield 60, 3) := by decide +kernel
theorem dX2_defectAt_19 : decode cX2_defectAt 19 = .ok (.iload_n 2, 1) := by decide +kernel
theorem dX2_defectAt_20 : decode cX2_defectAt 20 = .ok (.isub, 1) := by decide +kernel
theorem dX2_defectAt_21 : decode cX2_defectAt 21 = .ok (.iconst 1, 1) := by decide +kernel
theorem dX2_defectAt_22 : decode cX2_defectAt 22 = .ok (.isub, 1) := by decide +kernel
theorem dX2_defectAt_23 : decode cX2_defectAt 23 = .ok (.invokestatic 63, 3) := by decide +kernel
theorem dX2_defectAt_26 : decode cX2_defectAt 26 = .ok (.ifCond .ne 5, 3) := by decide +kernel
theorem dX2_defectAt_29 : decode cX2_defectAt 29 = .ok (.iconst 0, 1) := by decide +kernel
theorem dX2_defectAt_30 : decode cX2_defectAt 30 = .ok (.ireturn, 1) := by decide +kernel
theorem dX2_defectAt_31 : decode cX2_defectAt 31 = .ok (.iconst 2, 1) := by decide +kernel
theorem dX2_defectAt_32 : decode cX2_defectAt 32 = .ok (.aload_n 0, 1) := by decide +kernel
theorem dX2_defectAt_33 : decode cX2_defectAt 33 = .ok (.getfield 9, 3) := by decide +kernel
theorem dX2_defectAt_36 : decode cX2_defectAt 36 = .ok (.iload_n 1, 1) := by decide +kernel
theorem dX2_defectAt_37 : decode cX2_defectAt 37 = .ok (.iaload, 1) := by decide +kernel
theorem dX2_defectAt_38 : decode cX2_defectAt 38 = .ok (.imul, 1) := by decide +kernel
theorem dX2_defectAt_39 : decode cX2_defectAt 39 = .ok (.aload_n 0, 1) := by decide +kernel
theorem dX2_defectAt_40 : decode cX2_defectAt 40 = .ok (.getfield 9, 3) := by decide +kernel
theorem dX2_defectAt_43 : decode cX2_defectAt 43 = .ok (.iload_n 1, 1) := by decide +kernel
theorem dX2_defectAt_44 : decode cX2_defectAt 44 = .ok (.iload_n 2, 1) := by decide +kernel
theorem dX2_defectAt_45 : decode cX2_defectAt 45 = .ok (.isub, 1) := by decide +kernel
theorem dX2_defectAt_46 : decode cX2_defectAt 46 = .ok (.iaload, 1) := by decide +kernel
theorem dX2_defectAt_47 : decode cX2_defectAt 47 = .ok (.isub, 1) := by decide +kernel
theorem dX2_defectAt_48 : decode cX2_defectAt 48 = .ok (.aload_n 0, 1) := by decide +kernel
theorem dX2_defectAt_49 : decode cX2_defectAt 49 = .ok (.getfield 9, 3) := by decide +kernel
theorem dX2_defectAt_52 : decode cX2_defectAt 52 = .ok (.iload_n 1, 1) := by decide +kernel
theorem dX2_defectAt_53 : decode cX2_defectAt 53 = .ok (.iload_n 2, 1) := by decide +kernel
theorem dX2_defectAt_54 : decode cX2_defectAt 54 = .ok (.iadd, 1) := by decide +kernel
theorem dX2_defectAt_55 : decode cX2_defectAt 55 = .ok (.iaload, 1) := by decide +kernel
theorem dX2_defectAt_56 : decode cX2_defectAt 56 = .ok (.isub, 1) := by decide +kernel
theorem dX2_defectAt_57 : decode cX2_defectAt 57 = .ok (.ireturn, 1) := by decide +kernel
theorem dX2_orderOf_0 : decode cX2_orderOf 0 = .ok (.iload_n 1, 1) := by decide +kernel
theorem dX2_orderOf_1 : decode cX2_orderOf 1 = .ok (.aload_n 0, 1) := by decide +kernel
theorem dX2_orderOf_2 : decode cX2_orderOf 2 = .ok (.getfield 35, 3) := by decide +kernel
theorem dX2_orderOf_5 : decode cX2_orderOf 5 = .ok (.getfield 57, 3) := by decide +kernel
theorem dX2_orderOf_8 : decode cX2_orderOf 8 = .ok (.iconst 3, 1) := by decide +kernel
theorem dX2_orderOf_9 : decode cX2_orderOf 9 = .ok (.iaload, 1) := by decide +kernel
theorem dX2_orderOf_10 : decode cX2_orderOf 10 = .ok (.if_icmp .gt 5, 3) := by decide +kernel
theorem dX2_orderOf_13 : decode cX2_orderOf 13 = .ok (.iconst 0, 1) := by decide +kernel
theorem dX2_orderOf_14 : decode cX2_orderOf 14 = .ok (.ireturn, 1) := by decide +kernel
theorem dX2_orderOf_15 : decode cX2_orderOf 15 = .ok (.iload_n 1, 1) := by decide +kernel
theorem dX2_orderOf_16 : decode cX2_orderOf 16 = .ok (.aload_n 0, 1) := by decide +kernel
theorem dX2_orderOf_17 : decode cX2_orderOf 17 = .ok (.getfield 35, 3) := by decide +kernel
theorem dX2_orderOf_20 : decode cX2_orderOf 20 = .ok (.getfield 57, 3) := by decide +kernel
theorem dX2_orderOf_23 : decode cX2_orderOf 23 = .ok (.iconst 4, 1) := by decide +kernel
theorem dX2_orderOf_24 : decode cX2_orderOf 24 = .ok (.iaload, 1) := by decide +kernel
theorem dX2_orderOf_25 : decode cX2_orderOf 25 = .ok (.if_icmp .gt 5, 3) := by decide +kernel
theorem dX2_orderOf_28 : decode cX2_orderOf 28 = .ok (.iconst 1, 1) := by decide +kernel
theorem dX2_orderOf_29 : decode cX2_orderOf 29 = .ok (.ireturn, 1) := by decide +kernel
theorem dX2_orderOf_30 : decode cX2_orderOf 30 = .ok (.iload_n 1, 1) := by decide +kernel
theorem dX2_orderOf_31 : decode cX2_orderOf 31 = .ok (.aload_n 0, 1) := by decide +kernel
theorem dX2_orderOf_32 : decode cX2_orderOf 32 = .ok (.getfield 35, 3) := by decide +kernel
theorem dX2_orderOf_35 : decode cX2_orderOf 35 = .ok (.getfield 57, 3) := by decide +kernel
theorem dX2_orderOf_38 : decode cX2_orderOf 38 = .ok (.iconst 5, 1) := by decide +kernel
theorem dX2_orderOf_39 : decode cX2_orderOf 39 = .ok (.iaload, 1) := by decide +kernel
theorem dX2_orderOf_40 : decode cX2_orderOf 40 = .ok (.if_icmp .gt 7, 3) := by decide +kernel
theorem dX2_orderOf_43 : decode cX2_orderOf 43 = .ok (.iconst 2, 1) := by decide +kernel
theorem dX2_orderOf_44 : decode cX2_orderOf 44 = .ok (.goto 4, 3) := by decide +kernel
theorem dX2_orderOf_47 : decode cX2_orderOf 47 = .ok (.iconst 3, 1) := by decide +kernel
theorem dX2_orderOf_48 : decode cX2_orderOf 48 = .ok (.ireturn, 1) := by decide +kernel
theorem dX2_greatestOfAll_0 : decode cX2_greatestOfAll 0 = .ok (.aload_n 0, 1) := by decide +kernel
theorem dX2_greatestOfAll_1 : decode cX2_greatestOfAll 1 = .ok (.getfield 35, 3) := by decide +kernel
theorem dX2_greatestOfAll_4 : decode cX2_greatestOfAll 4 = .ok (.getfield 52, 3) := by decide +kernel
theorem dX2_greatestOfAll_7 : decode cX2_greatestOfAll 7 = .ok (.iload_n 1, 1) := by decide +kernel
theorem dX2_greatestOfAll_8 : decode cX2_greatestOfAll 8 = .ok (.iaload, 1) := by decide +kernel
theorem dX2_greatestOfAll_9 : decode cX2_greatestOfAll 9 = .ok (.istore_n 2, 1) := by decide +kernel
theorem dX2_greatestOfAll_10 : decode cX2_greatestOfAll 10 = .ok (.iconst 0, 1) := by decide +kernel
theorem dX2_greatestOfAll_11 : decode cX2_greatestOfAll 11 = .ok (.istore_n 3, 1) := by decide +kernel
theorem dX2_greatestOfAll_12 : decode cX2_greatestOfAll 12 = .ok (.iload_n 3, 1) := by decide +kernel
theorem dX2_greatestOfAll_13 : decode cX2_greatestOfAll 13 = .ok (.aload_n 0, 1) := by decide +kernel
theorem dX2_greatestOfAll_14 : decode cX2_greatestOfAll 14 = .ok (.getfield 35, 3) := by decide +kernel
theorem dX2_greatestOfAll_17 : decode cX2_greatestOfAll 17 = .ok (.getfield 60, 3) := by decide +kernel
theorem dX2_greatestOfAll_20 : decode cX2_greatestOfAll 20 = .ok (.if_icmp .ge 44, 3) := by decide +kernel
theorem dX2_greatestOfAll_23 : decode cX2_greatestOfAll 23 = .ok (.aload_n 0, 1) := by decide +kernel
theorem dX2_greatestOfAll_24 : decode cX2_greatestOfAll 24 = .ok (.getfield 35, 3) := by decide +kernel
theorem dX2_greatestOfAll_27 : decode cX2_greatestOfAll 27 = .ok (.getfield 52, 3) := by decide +kernel
theorem dX2_greatestOfAll_30 : decode cX2_greatestOfAll 30 = .ok (.iload_n 3, 1) := by decide +kernel
theorem dX2_greatestOfAll_31 : decode cX2_greatestOfAll 31 = .ok (.iaload, 1) := by decide +kernel
theorem dX2_greatestOfAll_32 : decode cX2_greatestOfAll 32 = .ok (.aload_n 0, 1) := by decide +kernel
theorem dX2_greatestOfAll_33 : decode cX2_greatestOfAll 33 = .ok (.getfield 35, 3) := by decide +kernel
theorem dX2_greatestOfAll_36 : decode cX2_greatestOfAll 36 = .ok (.getfield 57, 3) := by decide +kernel
theorem dX2_greatestOfAll_39 : decode cX2_greatestOfAll 39 = .ok (.iconst 0, 1) := by decide +kernel
theorem dX2_greatestOfAll_40 : decode cX2_greatestOfAll 40 = .ok (.iaload, 1) := by decide +kernel
theorem dX2_greatestOfAll_41 : decode cX2_greatestOfAll 41 = .ok (.iload_n 1, 1) := by decide +kernel
theorem dX2_greatestOfAll_42 : decode cX2_greatestOfAll 42 = .ok (.iload_n 3, 1) := by decide +kernel
theorem dX2_greatestOfAll_43 : decode cX2_greatestOfAll 43 = .ok (.isub, 1) := by decide +kernel
theorem dX2_greatestOfAll_44 : decode cX2_greatestOfAll 44 = .ok (.invokestatic 67, 3) := by decide +kernel
theorem dX2_greatestOfAll_47 : decode cX2_greatestOfAll 47 = .ok (.imul, 1) := by decide +kernel
theorem dX2_greatestOfAll_48 : decode cX2_greatestOfAll 48 = .ok (.isub, 1) := by decide +kernel
theorem dX2_greatestOfAll_49 : decode cX2_greatestOfAll 49 = .ok (.istore 4, 2) := by decide +kernel
theorem dX2_greatestOfAll_51 : decode cX2_greatestOfAll 51 = .ok (.iload_n 2, 1) := by decide +kernel
theorem dX2_greatestOfAll_52 : decode cX2_greatestOfAll 52 = .ok (.iload 4, 2) := by decide +kernel
theorem dX2_greatestOfAll_54 : decode cX2_greatestOfAll 54 = .ok (.invokestatic 72, 3) := by decide +kernel
theorem dX2_greatestOfAll_57 : decode cX2_greatestOfAll 57 = .ok (.istore_n 2, 1) := by decide +kernel
theorem dX2_greatestOfAll_58 : decode cX2_greatestOfAll 58 = .ok (.iinc 3 1, 3) := by decide +kernel
theorem dX2_greatestOfAll_61 : decode cX2_greatestOfAll 61 = .ok (.goto (-49), 3) := by decide +kernel
theorem dX2_greatestOfAll_64 : decode cX2_greatestOfAll 64 = .ok (.iload_n 2, 1) := by decide +kernel
theorem dX2_greatestOfAll_65 : decode cX2_greatestOfAll 65 = .ok (.ireturn, 1) := by decide +kernel
set_option maxRecDepth 20000 in
theorem ggX2_findLoads_X2_handOn : GoodIn wsX2_findLoads wsX2_handOn := goodIn_r _ [9, 4, 10, 11, 12, 13, 14, 15, 16, 17] (by decide +kernel) (by decide +kernel)
set_option maxRecDepth 20000 in
theorem gX2_findLoads_X2_handOn : GoodIn wsX2_findLoads (wsV RX2 76 RX2 yX2_handOn wsX2_handOn) := goodIn_app (goodIn_of _ (by decide +kernel)) ggX2_findLoads_X2_handOn
theorem dX2_findLoads_0 : decode cX2_findLoads 0 = .ok (.iconst (-1), 1) := by decide +kernel
theorem dX2_findLoads_1 : decode cX2_findLoads 1 = .ok (.istore_n 1, 1) := by decide +kernel
theorem dX2_findLoads_2 : decode cX2_findLoads 2 = .ok (.iconst 0, 1) := by decide +kernel
theorem dX2_findLoads_3 : decode cX2_findLoads 3 = .ok (.istore_n 2, 1) := by decide +kernel
theorem dX2_findLoads_4 : decode cX2_findLoads 4 = .ok (.iconst 0, 1) := by decide +kernel
theorem dX2_findLoads_5 : decode cX2_findLoads 5 = .ok (.istore_n 3, 1) := by decide +kernel
theorem dX2_findLoads_6 : decode cX2_findLoads 6 = .ok (.iload_n 3, 1) := by decide +kernel
theorem dX2_findLoads_7 : decode cX2_findLoads 7 = .ok (.aload_n 0, 1) := by decide +kernel
theorem dX2_findLoads_8 : decode cX2_findLoads 8 = .ok (.getfield 35, 3) := by decide +kernel
theorem dX2_findLoads_11 : decode cX2_findLoads 11 = .ok (.getfield 60, 3) := by decide +kernel
theorem dX2_findLoads_14 : decode cX2_findLoads 14 = .ok (.if_icmp .ge 49, 3) := by decide +kernel
theorem dX2_findLoads_17 : decode cX2_findLoads 17 = .ok (.aload_n 0, 1) := by decide +kernel
theorem dX2_findLoads_18 : decode cX2_findLoads 18 = .ok (.getfield 18, 3) := by decide +kernel
theorem dX2_findLoads_21 : decode cX2_findLoads 21 = .ok (.iload_n 3, 1) := by decide +kernel
theorem dX2_findLoads_22 : decode cX2_findLoads 22 = .ok (.baload, 1) := by decide +kernel
theorem dX2_findLoads_23 : decode cX2_findLoads 23 = .ok (.ifCond .eq 16, 3) := by decide +kernel
theorem dX2_findLoads_26 : decode cX2_findLoads 26 = .ok (.aload_n 0, 1) := by decide +kernel
theorem dX2_findLoads_27 : decode cX2_findLoads 27 = .ok (.getfield 15, 3) := by decide +kernel
theorem dX2_findLoads_30 : decode cX2_findLoads 30 = .ok (.iload_n 3, 1) := by decide +kernel
theorem dX2_findLoads_31 : decode cX2_findLoads 31 = .ok (.iconst 0, 1) := by decide +kernel
theorem dX2_findLoads_32 : decode cX2_findLoads 32 = .ok (.iastore, 1) := by decide +kernel
theorem dX2_findLoads_33 : decode cX2_findLoads 33 = .ok (.iinc 2 1, 3) := by decide +kernel
theorem dX2_findLoads_36 : decode cX2_findLoads 36 = .ok (.goto 21, 3) := by decide +kernel
theorem dX2_findLoads_39 : decode cX2_findLoads 39 = .ok (.aload_n 0, 1) := by decide +kernel
theorem dX2_findLoads_40 : decode cX2_findLoads 40 = .ok (.getfield 15, 3) := by decide +kernel
theorem dX2_findLoads_43 : decode cX2_findLoads 43 = .ok (.iload_n 3, 1) := by decide +kernel
theorem dX2_findLoads_44 : decode cX2_findLoads 44 = .ok (.iconst 2, 1) := by decide +kernel
theorem dX2_findLoads_45 : decode cX2_findLoads 45 = .ok (.iastore, 1) := by decide +kernel
theorem dX2_findLoads_46 : decode cX2_findLoads 46 = .ok (.aload_n 0, 1) := by decide +kernel
theorem dX2_findLoads_47 : decode cX2_findLoads 47 = .ok (.iload_n 1, 1) := by decide +kernel
theorem dX2_findLoads_48 : decode cX2_findLoads 48 = .ok (.iload_n 3, 1) := by decide +kernel
theorem dX2_findLoads_49 : decode cX2_findLoads 49 = .ok (.iload_n 2, 1) := by decide +kernel
theorem dX2_findLoads_50 : decode cX2_findLoads 50 = .ok (.invokevirtual 76, 3) := by decide +kernel
theorem dX2_findLoads_53 : decode cX2_findLoads 53 = .ok (.iload_n 3, 1) := by decide +kernel
theorem dX2_findLoads_54 : decode cX2_findLoads 54 = .ok (.istore_n 1, 1) := by decide +kernel
theorem dX2_findLoads_55 : decode cX2_findLoads 55 = .ok (.iconst 0, 1) := by decide +kernel
theorem dX2_findLoads_56 : decode cX2_findLoads 56 = .ok (.istore_n 2, 1) := by decide +kernel
theorem dX2_findLoads_57 : decode cX2_findLoads 57 = .ok (.iinc 3 1, 3) := by decide +kernel
theorem dX2_findLoads_60 : decode cX2_findLoads 60 = .ok (.goto (-54), 3) := by decide +kernel
theorem dX2_findLoads_63 : decode cX2_findLoads 63 = .ok (.aload_n 0, 1) := by decide +kernel
theorem dX2_findLoads_64 : decode cX2_findLoads 64 = .ok (.iload_n 1, 1) := by decide +kernel
theorem dX2_findLoads_65 : decode cX2_findLoads 65 = .ok (.iconst (-1), 1) := by decide +kernel
theorem dX2_findLoads_66 : decode cX2_findLoads 66 = .ok (.iload_n 2, 1) := by decide +kernel
theorem dX2_findLoads_67 : decode cX2_findLoads 67 = .ok (.invokevirtual 76, 3) := by decide +kernel
theorem dX2_findLoads_70 : decode cX2_findLoads 70 = .ok (.return_, 1) := by decide +kernel
theorem dX2_handOn_0 : decode cX2_handOn 0 = .ok (.iload_n 1, 1) := by decide +kernel
theorem dX2_handOn_1 : decode cX2_handOn 1 = .ok (.ifCond .lt 23, 3) := by decide +kernel
theorem dX2_handOn_4 : decode cX2_handOn 4 = .ok (.aload_n 0, 1) := by decide +kernel
theorem dX2_handOn_5 : decode cX2_handOn 5 = .ok (.getfield 15, 3) := by decide +kernel
theorem dX2_handOn_8 : decode cX2_handOn 8 = .ok (.iload_n 1, 1) := by decide +kernel
theorem dX2_handOn_9 : decode cX2_handOn 9 = .ok (.dup2, 1) := by decide +kernel
theorem dX2_handOn_10 : decode cX2_handOn 10 = .ok (.iaload, 1) := by decide +kernel
theorem dX2_handOn_11 : decode cX2_handOn 11 = .ok (.iload_n 2, 1) := by decide +kernel
theorem dX2_handOn_12 : decode cX2_handOn 12 = .ok (.ifCond .lt 7, 3) := by decide +kernel
theorem dX2_handOn_15 : decode cX2_handOn 15 = .ok (.iload_n 3, 1) := by decide +kernel
theorem dX2_handOn_16 : decode cX2_handOn 16 = .ok (.goto 6, 3) := by decide +kernel
theorem dX2_handOn_19 : decode cX2_handOn 19 = .ok (.iconst 2, 1) := by decide +kernel
theorem dX2_handOn_20 : decode cX2_handOn 20 = .ok (.iload_n 3, 1) := by decide +kernel
theorem dX2_handOn_21 : decode cX2_handOn 21 = .ok (.imul, 1) := by decide +kernel
theorem dX2_handOn_22 : decode cX2_handOn 22 = .ok (.iadd, 1) := by decide +kernel
theorem dX2_handOn_23 : decode cX2_handOn 23 = .ok (.iastore, 1) := by decide +kernel
theorem dX2_handOn_24 : decode cX2_handOn 24 = .ok (.iload_n 2, 1) := by decide +kernel
theorem dX2_handOn_25 : decode cX2_handOn 25 = .ok (.ifCond .lt 23, 3) := by decide +kernel
theorem dX2_handOn_28 : decode cX2_handOn 28 = .ok (.aload_n 0, 1) := by decide +kernel
theorem dX2_handOn_29 : decode cX2_handOn 29 = .ok (.getfield 15, 3) := by decide +kernel
theorem dX2_handOn_32 : decode cX2_handOn 32 = .ok (.iload_n 2, 1) := by decide +kernel
theorem dX2_handOn_33 : decode cX2_handOn 33 = .ok (.dup2, 1) := by decide +kernel
theorem dX2_handOn_34 : decode cX2_handOn 34 = .ok (.iaload, 1) := by decide +kernel
theorem dX2_handOn_35 : decode cX2_handOn 35 = .ok (.iload_n 1, 1) := by decide +kernel
theorem dX2_handOn_36 : decode cX2_handOn 36 = .ok (.ifCond .lt 7, 3) := by decide +kernel
theorem dX2_handOn_39 : decode cX2_handOn 39 = .ok (.iload_n 3, 1) := by decide +kernel
theorem dX2_handOn_40 : decode cX2_handOn 40 = .ok (.goto 6, 3) := by decide +kernel
theorem dX2_handOn_43 : decode cX2_handOn 43 = .ok (.iconst 2, 1) := by decide +kernel
theorem dX2_handOn_44 : decode cX2_handOn 44 = .ok (.iload_n 3, 1) := by decide +kernel
theorem dX2_handOn_45 : decode cX2_handOn 45 = .ok (.imul, 1) := by decide +kernel
theorem dX2_handOn_46 : decode cX2_handOn 46 = .ok (.iadd, 1) := by decide +kernel
theorem dX2_handOn_47 : decode cX2_handOn 47 = .ok (.iastore, 1) := by decide +kernel
theorem dX2_handOn_48 : decode cX2_handOn 48 = .ok (.return_, 1) := by decide +kernel
theorem dX2_findHeights_0 : decode cX2_findHeights 0 = .ok (.aload_n 0, 1) := by decide +kernel
theorem dX2_findHeights_1 : decode cX2_findHeights 1 = .ok (.getfield 35, 3) := by decide +kernel
theorem dX2_findHeights_4 : decode cX2_findHeights 4 = .ok (.getfield 57, 3) := by decide +kernel
theorem dX2_findHeights_7 : decode cX2_findHeights 7 = .ok (.iconst 0, 1) := by decide +kernel
theorem dX2_findHeights_8 : decode cX2_findHeights 8 = .ok (.iaload, 1) := by decide +kernel
theorem dX2_findHeights_9 : decode cX2_findHeights 9 = .ok (.istore_n 1, 1) := by decide +kernel
theorem dX2_findHeights_10 : decode cX2_findHeights 10 = .ok (.sipush (-9999), 3) := by decide +kernel
theorem dX2_findHeights_13 : decode cX2_findHeights 13 = .ok (.istore_n 2, 1) := by decide +kernel
theorem dX2_findHeights_14 : decode cX2_findHeights 14 = .ok (.iconst 0, 1) := by decide +kernel
theorem dX2_findHeights_15 : decode cX2_findHeights 15 = .ok (.istore_n 3, 1) := by decide +kernel
theorem dX2_findHeights_16 : decode cX2_findHeights 16 = .ok (.iload_n 3, 1) := by decide +kernel
theorem dX2_findHeights_17 : decode cX2_findHeights 17 = .ok (.aload_n 0, 1) := by decide +kernel
theorem dX2_findHeights_18 : decode cX2_findHeights 18 = .ok (.getfield 35, 3) := by decide +kernel
theorem dX2_findHeights_21 : decode cX2_findHeights 21 = .ok (.getfield 60, 3) := by decide +kernel
theorem dX2_findHeights_24 : decode cX2_findHeights 24 = .ok (.if_icmp .ge 32, 3) := by decide +kernel
theorem dX2_findHeights_27 : decode cX2_findHeights 27 = .ok (.iload_n 2, 1) := by decide +kernel
theorem dX2_findHeights_28 : decode cX2_findHeights 28 = .ok (.iload_n 1, 1) := by decide +kernel
theorem dX2_findHeights_29 : decode cX2_findHeights 29 = .ok (.isub, 1) := by decide +kernel
theorem dX2_findHeights_30 : decode cX2_findHeights 30 = .ok (.aload_n 0, 1) := by decide +kernel
theorem dX2_findHeights_31 : decode cX2_findHeights 31 = .ok (.getfield 35, 3) := by decide +kernel
theorem dX2_findHeights_34 : decode cX2_findHeights 34 = .ok (.getfield 52, 3) := by decide +kernel
theorem dX2_findHeights_37 : decode cX2_findHeights 37 = .ok (.iload_n 3, 1) := by decide +kernel
theorem dX2_findHeights_38 : decode cX2_findHeights 38 = .ok (.iaload, 1) := by decide +kernel
theorem dX2_findHeights_39 : decode cX2_findHeights 39 = .ok (.invokestatic 72, 3) := by decide +kernel
theorem dX2_findHeights_42 : decode cX2_findHeights 42 = .ok (.istore_n 2, 1) := by decide +kernel
theorem dX2_findHeights_43 : decode cX2_findHeights 43 = .ok (.aload_n 0, 1) := by decide +kernel
theorem dX2_findHeights_44 : decode cX2_findHeights 44 = .ok (.getfield 9, 3) := by decide +kernel
theorem dX2_findHeights_47 : decode cX2_findHeights 47 = .ok (.iload_n 3, 1) := by decide +kernel
theorem dX2_findHeights_48 : decode cX2_findHeights 48 = .ok (.iload_n 2, 1) := by decide +kernel
theorem dX2_findHeights_49 : decode cX2_findHeights 49 = .ok (.iastore, 1) := by decide +kernel
theorem dX2_findHeights_50 : decode cX2_findHeights 50 = .ok (.iinc 3 1, 3) := by decide +kernel
theorem dX2_findHeights_53 : decode cX2_findHeights 53 = .ok (.goto (-37), 3) := by decide +kernel
theorem dX2_findHeights_56 : decode cX2_findHeights 56 = .ok (.aload_n 0, 1) := by decide +kernel
theorem dX2_findHeights_57 : decode cX2_findHeights 57 = .ok (.getfield 35, 3) := by decide +kernel
theorem dX2_findHeights_60 : decode cX2_findHeights 60 = .ok (.getfield 60, 3) := by decide +kernel
theorem dX2_findHeights_63 : decode cX2_findHeights 63 = .ok (.iconst 1, 1) := by decide +kernel
theorem dX2_findHeights_64 : decode cX2_findHeights 64 = .ok (.isub, 1) := by decide +kernel
theorem dX2_findHeights_65 : decode cX2_findHeights 65 = .ok (.istore_n 3, 1) := by decide +kernel
theorem dX2_findHeights_66 : decode cX2_findHeights 66 = .ok (.iload_n 3, 1) := by decide +kernel
theorem dX2_findHeights_67 : decode cX2_findHeights 67 = .ok (.ifCond .lt 29, 3) := by decide +kernel
theorem dX2_findHeights_70 : decode cX2_findHeights 70 = .ok (.iload_n 2, 1) := by decide +kernel
theorem dX2_findHeights_71 : decode cX2_findHeights 71 = .ok (.iload_n 1, 1) := by decide +kernel
theorem dX2_findHeights_72 : decode cX2_findHeights 72 = .ok (.isub, 1) := by decide +kernel
theorem dX2_findHeights_73 : decode cX2_findHeights 73 = .ok (.aload_n 0, 1) := by decide +kernel
theorem dX2_findHeights_74 : decode cX2_findHeights 74 = .ok (.getfield 9, 3) := by decide +kernel
theorem dX2_findHeights_77 : decode cX2_findHeights 77 = .ok (.iload_n 3, 1) := by decide +kernel
theorem dX2_findHeights_78 : decode cX2_findHeights 78 = .ok (.iaload, 1) := by decide +kernel
theorem dX2_findHeights_79 : decode cX2_findHeights 79 = .ok (.invokestatic 72, 3) := by decide +kernel
theorem dX2_findHeights_82 : decode cX2_findHeights 82 = .ok (.istore_n 2, 1) := by decide +kernel
theorem dX2_findHeights_83 : decode cX2_findHeights 83 = .ok (.aload_n 0, 1) := by decide +kernel
theorem dX2_findHeights_84 : decode cX2_findHeights 84 = .ok (.getfield 9, 3) := by decide +kernel
theorem dX2_findHeights_87 : decode cX2_findHeights 87 = .ok (.iload_n 3, 1) := by decide +kernel
theorem dX2_findHeights_88 : decode cX2_findHeights 88 = .ok (.iload_n 2, 1) := by decide +kernel
theorem dX2_findHeights_89 : decode cX2_findHeights 89 = .ok (.iastore, 1) := by decide +kernel
theorem dX2_findHeights_90 : decode cX2_findHeights 90 = .ok (.iinc 3 (-1), 3) := by decide +kernel
theorem dX2_findHeights_93 : decode cX2_findHeights 93 = .ok (.goto (-27), 3) := by decide +kernel
theorem dX2_findHeights_96 : decode cX2_findHeights 96 = .ok (.return_, 1) := by decide +kernel
set_option maxRecDepth 20000 in
theorem ggX2_findHanging_X2_voidAt : GoodIn wsX2_findHanging wsX2_voidAt := goodIn_r _ [10, 11, 2, 12, 13, 14, 15, 16, 17, 18, 19, 20, 21, 22, 23, 24, 25, 26, 27, 28, 29] (by decide +kernel) (by decide +kernel)
set_option maxRecDepth 20000 in
theorem gX2_findHanging_X2_voidAt : GoodIn wsX2_findHanging (wsV RX2 80 RX2 yX2_voidAt wsX2_voidAt) := goodIn_app (goodIn_of _ (by decide +kernel)) ggX2_findHanging_X2_voidAt
theorem dX2_findHanging_0 : decode cX2_findHanging 0 = .ok (.aload_n 0, 1) := by decide +kernel
theorem dX2_findHanging_1 : decode cX2_findHanging 1 = .ok (.iconst 0, 1) := by decide +kernel
theorem dX2_findHanging_2 : decode cX2_findHanging 2 = .ok (.putfield 22, 3) := by decide +kernel
theorem dX2_findHanging_5 : decode cX2_findHanging 5 = .ok (.iconst 0, 1) := by decide +kernel
theorem dX2_findHanging_6 : decode cX2_findHanging 6 = .ok (.istore_n 1, 1) := by decide +kernel
theorem dX2_findHanging_7 : decode cX2_findHanging 7 = .ok (.iload_n 1, 1) := by decide +kernel
theorem dX2_findHanging_8 : decode cX2_findHanging 8 = .ok (.aload_n 0, 1) := by decide +kernel
theorem dX2_findHanging_9 : decode cX2_findHanging 9 = .ok (.getfield 35, 3) := by decide +kernel
theorem dX2_findHanging_12 : decode cX2_findHanging 12 = .ok (.getfield 60, 3) := by decide +kernel
theorem dX2_findHanging_15 : decode cX2_findHanging 15 = .ok (.if_icmp .ge 56, 3) := by decide +kernel
theorem dX2_findHanging_18 : decode cX2_findHanging 18 = .ok (.aload_n 0, 1) := by decide +kernel
theorem dX2_findHanging_19 : decode cX2_findHanging 19 = .ok (.getfield 18, 3) := by decide +kernel
theorem dX2_findHanging_22 : decode cX2_findHanging 22 = .ok (.iload_n 1, 1) := by decide +kernel
theorem dX2_findHanging_23 : decode cX2_findHanging 23 = .ok (.aload_n 0, 1) := by decide +kernel
theorem dX2_findHanging_24 : decode cX2_findHanging 24 = .ok (.iload_n 1, 1) := by decide +kernel
theorem dX2_findHanging_25 : decode cX2_findHanging 25 = .ok (.invokevirtual 80, 3) := by decide +kernel
theorem dX2_findHanging_28 : decode cX2_findHanging 28 = .ok (.aload_n 0, 1) := by decide +kernel
theorem dX2_findHanging_29 : decode cX2_findHanging 29 = .ok (.getfield 35, 3) := by decide +kernel
theorem dX2_findHanging_32 : decode cX2_findHanging 32 = .ok (.getfield 57, 3) := by decide +kernel
theorem dX2_findHanging_35 : decode cX2_findHanging 35 = .ok (.iconst 1, 1) := by decide +kernel
theorem dX2_findHanging_36 : decode cX2_findHanging 36 = .ok (.iaload, 1) := by decide +kernel
theorem dX2_findHanging_37 : decode cX2_findHanging 37 = .ok (.if_icmp .le 7, 3) := by decide +kernel
theorem dX2_findHanging_40 : decode cX2_findHanging 40 = .ok (.iconst 1, 1) := by decide +kernel
theorem dX2_findHanging_41 : decode cX2_findHanging 41 = .ok (.goto 4, 3) := by decide +kernel
theorem dX2_findHanging_44 : decode cX2_findHanging 44 = .ok (.iconst 0, 1) := by decide +kernel
theorem dX2_findHanging_45 : decode cX2_findHanging 45 = .ok (.bastore, 1) := by decide +kernel
theorem dX2_findHanging_46 : decode cX2_findHanging 46 = .ok (.aload_n 0, 1) := by decide +kernel
theorem dX2_findHanging_47 : decode cX2_findHanging 47 = .ok (.getfield 18, 3) := by decide +kernel
theorem dX2_findHanging_50 : decode cX2_findHanging 50 = .ok (.iload_n 1, 1) := by decide +kernel
theorem dX2_findHanging_51 : decode cX2_findHanging 51 = .ok (.baload, 1) := by decide +kernel
theorem dX2_findHanging_52 : decode cX2_findHanging 52 = .ok (.ifCond .eq 13, 3) := by decide +kernel
theorem dX2_findHanging_55 : decode cX2_findHanging 55 = .ok (.aload_n 0, 1) := by decide +kernel
theorem dX2_findHanging_56 : decode cX2_findHanging 56 = .ok (.dup, 1) := by decide +kernel
theorem dX2_findHanging_57 : decode cX2_findHanging 57 = .ok (.getfield 22, 3) := by decide +kernel
theorem dX2_findHanging_60 : decode cX2_findHanging 60 = .ok (.iconst 1, 1) := by decide +kernel
theorem dX2_findHanging_61 : decode cX2_findHanging 61 = .ok (.iadd, 1) := by decide +kernel
theorem dX2_findHanging_62 : decode cX2_findHanging 62 = .ok (.putfield 22, 3) := by decide +kernel
theorem dX2_findHanging_65 : decode cX2_findHanging 65 = .ok (.iinc 1 1, 3) := by decide +kernel
theorem dX2_findHanging_68 : decode cX2_findHanging 68 = .ok (.goto (-61), 3) := by decide +kernel
theorem dX2_findHanging_71 : decode cX2_findHanging 71 = .ok (.return_, 1) := by decide +kernel
set_option maxRecDepth 20000 in
theorem ggX2_findWorst_X2_defectAt : GoodIn wsX2_findWorst wsX2_defectAt := goodIn_r _ [13, 3, 14, 4, 15, 16, 17, 18, 19, 20, 21, 22, 23, 24, 25, 26, 27, 28, 29, 30, 31, 32, 33, 34, 35] (by decide +kernel) (by decide +kernel)
set_option maxRecDepth 20000 in
theorem gX2_findWorst_X2_defectAt : GoodIn wsX2_findWorst (wsV RX2 83 RX2 yX2_defectAt wsX2_defectAt) := goodIn_app (goodIn_of _ (by decide +kernel)) ggX2_findWorst_X2_defectAt
theorem dX2_findWorst_0 : decode cX2_findWorst 0 = .ok (.aload_n 0, 1) := by decide +kernel
theorem dX2_findWorst_1 : decode cX2_findWorst 1 = .ok (.iconst 0, 1) := by decide +kernel
theorem dX2_findWorst_2 : decode cX2_findWorst 2 = .ok (.putfield 26, 3) := by decide +kernel
theorem dX2_findWorst_5 : decode cX2_findWorst 5 = .ok (.aload_n 0, 1) := by decide +kernel
theorem dX2_findWorst_6 : decode cX2_findWorst 6 = .ok (.iconst 0, 1) := by decide +kernel
theorem dX2_findWorst_7 : decode cX2_findWorst 7 = .ok (.putfield 29, 3) := by decide +kernel
theorem dX2_findWorst_10 : decode cX2_findWorst 10 = .ok (.iconst 0, 1) := by decide +kernel
theorem dX2_findWorst_11 : decode cX2_findWorst 11 = .ok (.istore_n 1, 1) := by decide +kernel
theorem dX2_findWorst_12 : decode cX2_findWorst 12 = .ok (.iload_n 1, 1) := by decide +kernel
theorem dX2_findWorst_13 : decode cX2_findWorst 13 = .ok (.aload_n 0, 1) := by decide +kernel
theorem dX2_findWorst_14 : decode cX2_findWorst 14 = .ok (.getfield 35, 3) := by decide +kernel
theorem dX2_findWorst_17 : decode cX2_findWorst 17 = .ok (.getfield 60, 3) := by decide +kernel
theorem dX2_findWorst_20 : decode cX2_findWorst 20 = .ok (.if_icmp .ge 36, 3) := by decide +kernel
theorem dX2_findWorst_23 : decode cX2_findWorst 23 = .ok (.aload_n 0, 1) := by decide +kernel
theorem dX2_findWorst_24 : decode cX2_findWorst 24 = .ok (.iload_n 1, 1) := by decide +kernel
theorem dX2_findWorst_25 : decode cX2_findWorst 25 = .ok (.invokevirtual 83, 3) := by decide +kernel
theorem dX2_findWorst_28 : decode cX2_findWorst 28 = .ok (.invokestatic 67, 3) := by decide +kernel
theorem dX2_findWorst_31 : decode cX2_findWorst 31 = .ok (.istore_n 2, 1) := by decide +kernel
theorem dX2_findWorst_32 : decode cX2_findWorst 32 = .ok (.iload_n 2, 1) := by decide +kernel
theorem dX2_findWorst_33 : decode cX2_findWorst 33 = .ok (.aload_n 0, 1) := by decide +kernel
theorem dX2_findWorst_34 : decode cX2_findWorst 34 = .ok (.getfield 29, 3) := by decide +kernel
theorem dX2_findWorst_37 : decode cX2_findWorst 37 = .ok (.if_icmp .le 13, 3) := by decide +kernel
theorem dX2_findWorst_40 : decode cX2_findWorst 40 = .ok (.aload_n 0, 1) := by decide +kernel
theorem dX2_findWorst_41 : decode cX2_findWorst 41 = .ok (.iload_n 1, 1) := by decide +kernel
theorem dX2_findWorst_42 : decode cX2_findWorst 42 = .ok (.putfield 26, 3) := by decide +kernel
theorem dX2_findWorst_45 : decode cX2_findWorst 45 = .ok (.aload_n 0, 1) := by decide +kernel
theorem dX2_findWorst_46 : decode cX2_findWorst 46 = .ok (.iload_n 2, 1) := by decide +kernel
theorem dX2_findWorst_47 : decode cX2_findWorst 47 = .ok (.putfield 29, 3) := by decide +kernel
theorem dX2_findWorst_50 : decode cX2_findWorst 50 = .ok (.iinc 1 1, 3) := by decide +kernel
theorem dX2_findWorst_53 : decode cX2_findWorst 53 = .ok (.goto (-41), 3) := by decide +kernel
theorem dX2_findWorst_56 : decode cX2_findWorst 56 = .ok (.return_, 1) := by decide +kernel
theorem dX3_init_0 : decode cX3_init 0 = .ok (.aload_n 0, 1) := by decide +kernel
theorem dX3_init_1 : decode cX3_init 1 = .ok (.invokespecial 3, 3) := by decide +kernel
theorem dX3_init_4 : decode cX3_init 4 = .ok (.aload_n 0, 1) := by decide +kernel
theorem dX3_init_5 : decode cX3_init 5 = .ok (.bipush 100, 2) := by decide +kernel
theorem dX3_init_7 : decode cX3_init 7 = .ok (.newarray .int, 2) := by decide +kernel
theorem dX3_init_9 : decode cX3_init 9 = .ok (.putfield 9, 3) := by decide +kernel
theorem dX3_init_12 : decode cX3_init 12 = .ok (.aload_n 0, 1) := by decide +kernel
theorem dX3_init_13 : decode cX3_init 13 = .ok (.iconst 0, 1) := by decide +kernel
theorem dX3_init_14 : decode cX3_init 14 = .ok (.putfield 15, 3) := by decide +kernel
theorem dX3_init_17 : decode cX3_init 17 = .ok (.aload_n 0, 1) := by decide +kernel
theorem dX3_init_18 : decode cX3_init 18 = .ok (.iconst 0, 1) := by decide +kernel
theorem dX3_init_19 : decode cX3_init 19 = .ok (.putfield 19, 3) := by decide +kernel
theorem dX3_init_22 : decode cX3_init 22 = .ok (.aload_n 0, 1) := by decide +kernel
theorem dX3_init_23 : decode cX3_init 23 = .ok (.iconst 0, 1) := by decide +kernel
theorem dX3_init_24 : decode cX3_init 24 = .ok (.putfield 22, 3) := by decide +kernel
theorem dX3_init_27 : decode cX3_init 27 = .ok (.return_, 1) := by decide +kernel
set_option maxRecDepth 20000 in
theorem ggX3_readInto_X3_skipSpaces : GoodIn wsX3_readInto wsX3_skipSpaces := goodIn_r _ [7, 1, 2, 8, 48, 49, 50, 51] (by decide +kernel) (by decide +kernel)
set_option maxRecDepth 20000 in
theorem gX3_readInto_X3_skipSpaces : GoodIn wsX3_readInto (wsV RX3 25 RX3 yX3_skipSpaces wsX3_skipSpaces) := goodIn_app (goodIn_of _ (by decide +kernel)) ggX3_readInto_X3_skipSpaces
set_option maxRecDepth 20000 in
theorem ggX3_readInto_X3_readItem : GoodIn wsX3_readInto wsX3_readItem := goodIn_r _ [12, 13, 14, 15, 16, 6, 17, 1, 2, 8, 3, 4, 5, 7, 18, 19, 20, 21, 22, 23, 24, 25, 26, 27, 28, 29, 30, 31, 32, 33, 34, 35, 36, 37, 38, 39, 40, 41, 42, 43, 44, 45, 46, 47, 52, 53, 54, 55, 56, 57, 58, 59, 60, 48, 49, 50, 51] (by decide +kernel) (by decide +kernel)
set_option maxRecDepth 20000 in
theorem gX3_readInto_X3_readItem : GoodIn wsX3_readInto (wsV RX3 28 RX3 yX3_readItem wsX3_readItem) := goodIn_app (goodIn_of _ (by decide +kernel)) ggX3_readInto_X3_readItem
theorem dX3_readInto_0 : decode cX3_readInto 0 = .ok (.aload_n 0, 1) := by decide +kernel
theorem dX3_readInto_1 : decode cX3_readInto 1 = .ok (.iconst 0, 1) := by decide +kernel
theorem dX3_readInto_2 : decode cX3_readInto 2 = .ok (.putfield 22, 3) := by decide +kernel
theorem dX3_readInto_5 : decode cX3_readInto 5 = .ok (.iconst 0, 1) := by decide +kernel
theorem dX3_readInto_6 : decode cX3_readInto 6 = .ok (.istore_n 2, 1) := by decide +kernel
theorem dX3_readInto_7 : decode cX3_readInto 7 = .ok (.iload_n 2, 1) := by decide +kernel
theorem dX3_readInto_8 : decode cX3_readInto 8 = .ok (.bipush 100, 2) := by decide +kernel
theorem dX3_readInto_10 : decode cX3_readInto 10 = .ok (.if_icmp .ge 36, 3) := by decide +kernel
theorem dX3_readInto_13 : decode cX3_readInto 13 = .ok (.aload_n 0, 1) := by decide +kernel
theorem dX3_readInto_14 : decode cX3_readInto 14 = .ok (.invokevirtual 25, 3) := by decide +kernel
theorem dX3_readInto_17 : decode cX3_readInto 17 = .ok (.aload_n 0, 1) := by decide +kernel
theorem dX3_readInto_18 : decode cX3_readInto 18 = .ok (.getfield 22, 3) := by decide +kernel
theorem dX3_readInto_21 : decode cX3_readInto 21 = .ok (.aload_n 0, 1) := by decide +kernel
theorem dX3_readInto_22 : decode cX3_readInto 22 = .ok (.getfield 15, 3) := by decide +kernel
theorem dX3_readInto_25 : decode cX3_readInto 25 = .ok (.if_icmp .lt 5, 3) := by decide +kernel
theorem dX3_readInto_28 : decode cX3_readInto 28 = .ok (.iload_n 2, 1) := by decide +kernel
theorem dX3_readInto_29 : decode cX3_readInto 29 = .ok (.ireturn, 1) := by decide +kernel
theorem dX3_readInto_30 : decode cX3_readInto 30 = .ok (.aload_n 0, 1) := by decide +kernel
theorem dX3_readInto_31 : decode cX3_readInto 31 = .ok (.aload_n 1, 1) := by decide +kernel
theorem dX3_readInto_32 : decode cX3_readInto 32 = .ok (.invokevirtual 28, 3) := by decide +kernel
theorem dX3_readInto_35 : decode cX3_readInto 35 = .ok (.ifCond .ne 5, 3) := by decide +kernel
theorem dX3_readInto_38 : decode cX3_readInto 38 = .ok (.iconst (-1), 1) := by decide +kernel
theorem dX3_readInto_39 : decode cX3_readInto 39 = .ok (.ireturn, 1) := by decide +kernel
theorem dX3_readInto_40 : decode cX3_readInto 40 = .ok (.iinc 2 1, 3) := by decide +kernel
theorem dX3_readInto_43 : decode cX3_readInto 43 = .ok (.goto (-36), 3) := by decide +kernel
theorem dX3_readInto_46 : decode cX3_readInto 46 = .ok (.iconst (-1), 1) := by decide +kernel
theorem dX3_readInto_47 : decode cX3_readInto 47 = .ok (.ireturn, 1) := by decide +kernel
set_option maxRecDepth 20000 in
theorem ggX3_readItem_X3_takes : GoodIn wsX3_readItem wsX3_takes := goodIn_r _ [6, 7, 8, 9, 10, 11, 12, 5, 13, 53, 54, 55, 56] (by decide +kernel) (by decide +kernel)
set_option maxRecDepth 20000 in
theorem gX3_readItem_X3_takes : GoodIn wsX3_readItem (wsV RX3 32 RX3 yX3_takes wsX3_takes) := goodIn_app (goodIn_of _ (by decide +kernel)) ggX3_readItem_X3_takes
set_option maxRecDepth 20000 in
theorem ggX3_readItem_X3_expects : GoodIn wsX3_readItem wsX3_expects := goodIn_r _ [17, 7, 2, 3, 4, 5, 6, 8, 9, 10, 11, 12, 13, 18, 19, 20, 21, 22, 53, 54, 55, 56] (by decide +kernel) (by decide +kernel)
set_option maxRecDepth 20000 in
theorem gX3_readItem_X3_expects : GoodIn wsX3_readItem (wsV RX3 36 RX3 yX3_expects wsX3_expects) := goodIn_app (goodIn_of _ (by decide +kernel)) ggX3_readItem_X3_expects
set_option maxRecDepth 20000 in
theorem ggX3_readItem_X3_readNumber : GoodIn wsX3_readItem wsX3_readNumber := goodIn_r _ [26, 7, 8, 9, 10, 11, 12, 5, 13, 27, 28, 29, 30, 31, 32, 18, 19, 20, 21, 22, 53, 54, 55, 56] (by decide +kernel) (by decide +kernel)
set_option maxRecDepth 20000 in
theorem gX3_readItem_X3_readNumber : GoodIn wsX3_readItem (wsV RX3 44 RX3 yX3_readNumber wsX3_readNumber) := goodIn_app (goodIn_of _ (by decide +kernel)) ggX3_readItem_X3_readNumber
set_option maxRecDepth 20000 in
theorem ggX3_readItem_X3_put : GoodIn wsX3_readItem wsX3_put := goodIn_r _ [35, 36, 37, 38, 39, 40, 41, 42, 43, 44, 45, 46, 47, 48, 49, 50, 51, 52] (by decide +kernel) (by decide +kernel)
set_option maxRecDepth 20000 in
theorem gX3_readItem_X3_put : GoodIn wsX3_readItem (va_wsS RX3 48 yX3_put wsX3_put) := goodIn_app (goodIn_of _ (by decide +kernel)) ggX3_readItem_X3_put
theorem dX3_readItem_0 : decode cX3_readItem 0 = .ok (.aload_n 0, 1) := by decide +kernel
theorem dX3_readItem_1 : decode cX3_readItem 1 = .ok (.bipush 98, 2) := by decide +kernel
theorem dX3_readItem_3 : decode cX3_readItem 3 = .ok (.invokevirtual 32, 3) := by decide +kernel
theorem dX3_readItem_6 : decode cX3_readItem 6 = .ok (.istore_n 2, 1) := by decide +kernel
theorem dX3_readItem_7 : decode cX3_readItem 7 = .ok (.iload_n 2, 1) := by decide +kernel
theorem dX3_readItem_8 : decode cX3_readItem 8 = .ok (.ifCond .ne 14, 3) := by decide +kernel
theorem dX3_readItem_11 : decode cX3_readItem 11 = .ok (.aload_n 0, 1) := by decide +kernel
theorem dX3_readItem_12 : decode cX3_readItem 12 = .ok (.bipush 102, 2) := by decide +kernel
theorem dX3_readItem_14 : decode cX3_readItem 14 = .ok (.invokevirtual 36, 3) := by decide +kernel
theorem dX3_readItem_17 : decode cX3_readItem 17 = .ok (.ifCond .ne 5, 3) := by decide +kernel
theorem dX3_readItem_20 : decode cX3_readItem 20 = .ok (.iconst 0, 1) := by decide +kernel
theorem dX3_readItem_21 : decode cX3_readItem 21 = .ok (.ireturn, 1) := by decide +kernel
theorem dX3_readItem_22 : decode cX3_readItem 22 = .ok (.aload_n 0, 1) := by decide +kernel
theorem dX3_readItem_23 : decode cX3_readItem 23 = .ok (.iconst 2, 1) := by decide +kernel
theorem dX3_readItem_24 : decode cX3_readItem 24 = .ok (.iconst 0, 1) := by decide +kernel
theorem dX3_readItem_25 : decode cX3_readItem 25 = .ok (.aload_n 1, 1) := by decide +kernel
theorem dX3_readItem_26 : decode cX3_readItem 26 = .ok (.getfield 39, 3) := by decide +kernel
theorem dX3_readItem_29 : decode cX3_readItem 29 = .ok (.iconst 1, 1) := by decide +kernel
theorem dX3_readItem_30 : decode cX3_readItem 30 = .ok (.isub, 1) := by decide +kernel
theorem dX3_readItem_31 : decode cX3_readItem 31 = .ok (.invokevirtual 44, 3) := by decide +kernel
theorem dX3_readItem_34 : decode cX3_readItem 34 = .ok (.istore_n 3, 1) := by decide +kernel
theorem dX3_readItem_35 : decode cX3_readItem 35 = .ok (.iload_n 3, 1) := by decide +kernel
theorem dX3_readItem_36 : decode cX3_readItem 36 = .ok (.ifCond .ge 5, 3) := by decide +kernel
theorem dX3_readItem_39 : decode cX3_readItem 39 = .ok (.iconst 0, 1) := by decide +kernel
theorem dX3_readItem_40 : decode cX3_readItem 40 = .ok (.ireturn, 1) := by decide +kernel
theorem dX3_readItem_41 : decode cX3_readItem 41 = .ok (.iload_n 3, 1) := by decide +kernel
theorem dX3_readItem_42 : decode cX3_readItem 42 = .ok (.istore 4, 2) := by decide +kernel
theorem dX3_readItem_44 : decode cX3_readItem 44 = .ok (.aload_n 0, 1) := by decide +kernel
theorem dX3_readItem_45 : decode cX3_readItem 45 = .ok (.bipush 45, 2) := by decide +kernel
theorem dX3_readItem_47 : decode cX3_readItem 47 = .ok (.invokevirtual 32, 3) := by decide +kernel
theorem dX3_readItem_50 : decode cX3_readItem 50 = .ok (.ifCond .eq 17, 3) := by decide +kernel
theorem dX3_readItem_53 : decode cX3_readItem 53 = .ok (.aload_n 0, 1) := by decide +kernel
theorem dX3_readItem_54 : decode cX3_readItem 54 = .ok (.iconst 2, 1) := by decide +kernel
theorem dX3_readItem_55 : decode cX3_readItem 55 = .ok (.iload_n 3, 1) := by decide +kernel
theorem dX3_readItem_56 : decode cX3_readItem 56 = .ok (.aload_n 1, 1) := by decide +kernel
theorem dX3_readItem_57 : decode cX3_readItem 57 = .ok (.getfield 39, 3) := by decide +kernel
theorem dX3_readItem_60 : decode cX3_readItem 60 = .ok (.iconst 1, 1) := by decide +kernel
theorem dX3_readItem_61 : decode cX3_readItem 61 = .ok (.isub, 1) := by decide +kernel
theorem dX3_readItem_62 : decode cX3_readItem 62 = .ok (.invokevirtual 44, 3) := by decide +kernel
theorem dX3_readItem_65 : decode cX3_readItem 65 = .ok (.istore 4, 2) := by decide +kernel
theorem dX3_readItem_67 : decode cX3_readItem 67 = .ok (.iload 4, 2) := by decide +kernel
theorem dX3_readItem_69 : decode cX3_readItem 69 = .ok (.ifCond .lt 12, 3) := by decide +kernel
theorem dX3_readItem_72 : decode cX3_readItem 72 = .ok (.aload_n 0, 1) := by decide +kernel
theorem dX3_readItem_73 : decode cX3_readItem 73 = .ok (.bipush 61, 2) := by decide +kernel
theorem dX3_readItem_75 : decode cX3_readItem 75 = .ok (.invokevirtual 36, 3) := by decide +kernel
theorem dX3_readItem_78 : decode cX3_readItem 78 = .ok (.ifCond .ne 5, 3) := by decide +kernel
theorem dX3_readItem_81 : decode cX3_readItem 81 = .ok (.iconst 0, 1) := by decide +kernel
theorem dX3_readItem_82 : decode cX3_readItem 82 = .ok (.ireturn, 1) := by decide +kernel
theorem dX3_readItem_83 : decode cX3_readItem 83 = .ok (.iload_n 2, 1) := by decide +kernel
theorem dX3_readItem_84 : decode cX3_readItem 84 = .ok (.ifCond .eq 16, 3) := by decide +kernel
theorem dX3_readItem_87 : decode cX3_readItem 87 = .ok (.aload_n 0, 1) := by decide +kernel
theorem dX3_readItem_88 : decode cX3_readItem 88 = .ok (.bipush 45, 2) := by decide +kernel
theorem dX3_readItem_90 : decode cX3_readItem 90 = .ok (.invokevirtual 32, 3) := by decide +kernel
theorem dX3_readItem_93 : decode cX3_readItem 93 = .ok (.ifCond .eq 7, 3) := by decide +kernel
theorem dX3_readItem_96 : decode cX3_readItem 96 = .ok (.iconst 1, 1) := by decide +kernel
theorem dX3_readItem_97 : decode cX3_readItem 97 = .ok (.goto 4, 3) := by decide +kernel
theorem dX3_readItem_100 : decode cX3_readItem 100 = .ok (.iconst 0, 1) := by decide +kernel
theorem dX3_readItem_101 : decode cX3_readItem 101 = .ok (.istore 5, 2) := by decide +kernel
theorem dX3_readItem_103 : decode cX3_readItem 103 = .ok (.iload_n 2, 1) := by decide +kernel
theorem dX3_readItem_104 : decode cX3_readItem 104 = .ok (.ifCond .eq 15, 3) := by decide +kernel
theorem dX3_readItem_107 : decode cX3_readItem 107 = .ok (.aload_n 0, 1) := by decide +kernel
theorem dX3_readItem_108 : decode cX3_readItem 108 = .ok (.iconst 4, 1) := by decide +kernel
theorem dX3_readItem_109 : decode cX3_readItem 109 = .ok (.iconst 0, 1) := by decide +kernel
theorem dX3_readItem_110 : decode cX3_readItem 110 = .ok (.sipush 9999, 3) := by decide +kernel
theorem dX3_readItem_113 : decode cX3_readItem 113 = .ok (.invokevirtual 44, 3) := by decide +kernel
theorem dX3_readItem_116 : decode cX3_readItem 116 = .ok (.goto 11, 3) := by decide +kernel
theorem dX3_readItem_119 : decode cX3_readItem 119 = .ok (.aload_n 0, 1) := by decide +kernel
theorem dX3_readItem_120 : decode cX3_readItem 120 = .ok (.iconst 3, 1) := by decide +kernel
theorem dX3_readItem_121 : decode cX3_readItem 121 = .ok (.iconst 0, 1) := by decide +kernel
theorem dX3_readItem_122 : decode cX3_readItem 122 = .ok (.bipush 100, 2) := by decide +kernel
theorem dX3_readItem_124 : decode cX3_readItem 124 = .ok (.invokevirtual 44, 3) := by decide +kernel
theorem dX3_readItem_127 : decode cX3_readItem 127 = .ok (.istore 6, 2) := by decide +kernel
theorem dX3_readItem_129 : decode cX3_readItem 129 = .ok (.iload 6, 2) := by decide +kernel
theorem dX3_readItem_131 : decode cX3_readItem 131 = .ok (.ifCond .lt 12, 3) := by decide +kernel
theorem dX3_readItem_134 : decode cX3_readItem 134 = .ok (.aload_n 0, 1) := by decide +kernel
theorem dX3_readItem_135 : decode cX3_readItem 135 = .ok (.bipush 59, 2) := by decide +kernel
theorem dX3_readItem_137 : decode cX3_readItem 137 = .ok (.invokevirtual 36, 3) := by decide +kernel
theorem dX3_readItem_140 : decode cX3_readItem 140 = .ok (.ifCond .ne 5, 3) := by decide +kernel
theorem dX3_readItem_143 : decode cX3_readItem 143 = .ok (.iconst 0, 1) := by decide +kernel
theorem dX3_readItem_144 : decode cX3_readItem 144 = .ok (.ireturn, 1) := by decide +kernel
theorem dX3_readItem_145 : decode cX3_readItem 145 = .ok (.aload_n 1, 1) := by decide +kernel
theorem dX3_readItem_146 : decode cX3_readItem 146 = .ok (.iload_n 2, 1) := by decide +kernel
theorem dX3_readItem_147 : decode cX3_readItem 147 = .ok (.iload_n 3, 1) := by decide +kernel
theorem dX3_readItem_148 : decode cX3_readItem 148 = .ok (.iload 4, 2) := by decide +kernel
theorem dX3_readItem_150 : decode cX3_readItem 150 = .ok (.iload 5, 2) := by decide +kernel
theorem dX3_readItem_152 : decode cX3_readItem 152 = .ok (.ifCond .eq 9, 3) := by decide +kernel
theorem dX3_readItem_155 : decode cX3_readItem 155 = .ok (.iload 6, 2) := by decide +kernel
theorem dX3_readItem_157 : decode cX3_readItem 157 = .ok (.ineg, 1) := by decide +kernel
theorem dX3_readItem_158 : decode cX3_readItem 158 = .ok (.goto 5, 3) := by decide +kernel
theorem dX3_readItem_161 : decode cX3_readItem 161 = .ok (.iload 6, 2) := by decide +kernel
theorem dX3_readItem_163 : decode cX3_readItem 163 = .ok (.invokestatic 48, 3) := by decide +kernel
theorem dX3_readItem_166 : decode cX3_readItem 166 = .ok (.iconst 1, 1) := by decide +kernel
theorem dX3_readItem_167 : decode cX3_readItem 167 = .ok (.ireturn, 1) := by decide +kernel
set_option maxRecDepth 20000 in
theorem ggX3_put_X1_putLevel : GoodIn wsX3_put wsX1_putLevel := goodIn_r _ [6, 7, 8, 9, 10, 11, 12, 13, 14, 15, 16, 17] (by decide +kernel) (by decide +kernel)
set_option maxRecDepth 20000 in
theorem gX3_put_X1_putLevel : GoodIn wsX3_put (wsV RX3 52 RX1 yX1_putLevel wsX1_putLevel) := goodIn_app (goodIn_of _ (by decide +kernel)) ggX3_put_X1_putLevel
theorem dX3_put_0 : decode cX3_put 0 = .ok (.iload_n 2, 1) := by decide +kernel
theorem dX3_put_1 : decode cX3_put 1 = .ok (.istore 5, 2) := by decide +kernel
theorem dX3_put_3 : decode cX3_put 3 = .ok (.iload 5, 2) := by decide +kernel
theorem dX3_put_5 : decode cX3_put 5 = .ok (.iload_n 3, 1) := by decide +kernel
theorem dX3_put_6 : decode cX3_put 6 = .ok (.if_icmp .gt 33, 3) := by decide +kernel
theorem dX3_put_9 : decode cX3_put 9 = .ok (.iload_n 1, 1) := by decide +kernel
theorem dX3_put_10 : decode cX3_put 10 = .ok (.ifCond .eq 14, 3) := by decide +kernel
theorem dX3_put_13 : decode cX3_put 13 = .ok (.aload_n 0, 1) := by decide +kernel
theorem dX3_put_14 : decode cX3_put 14 = .ok (.iload 5, 2) := by decide +kernel
theorem dX3_put_16 : decode cX3_put 16 = .ok (.iload 4, 2) := by decide +kernel
theorem dX3_put_18 : decode cX3_put 18 = .ok (.invokevirtual 52, 3) := by decide +kernel
theorem dX3_put_21 : decode cX3_put 21 = .ok (.goto 12, 3) := by decide +kernel
theorem dX3_put_24 : decode cX3_put 24 = .ok (.aload_n 0, 1) := by decide +kernel
theorem dX3_put_25 : decode cX3_put 25 = .ok (.getfield 56, 3) := by decide +kernel
theorem dX3_put_28 : decode cX3_put 28 = .ok (.iload 5, 2) := by decide +kernel
theorem dX3_put_30 : decode cX3_put 30 = .ok (.iload 4, 2) := by decide +kernel
theorem dX3_put_32 : decode cX3_put 32 = .ok (.iastore, 1) := by decide +kernel
theorem dX3_put_33 : decode cX3_put 33 = .ok (.iinc 5 1, 3) := by decide +kernel
theorem dX3_put_36 : decode cX3_put 36 = .ok (.goto (-33), 3) := by decide +kernel
theorem dX3_put_39 : decode cX3_put 39 = .ok (.return_, 1) := by decide +kernel
set_option maxRecDepth 20000 in
theorem ggX3_readNumber_X3_skipSpaces : GoodIn wsX3_readNumber wsX3_skipSpaces := goodIn_r _ [8, 1, 2, 3, 20, 21, 22, 23] (by decide +kernel) (by decide +kernel)
set_option maxRecDepth 20000 in
theorem gX3_readNumber_X3_skipSpaces : GoodIn wsX3_readNumber (wsV RX3 25 RX3 yX3_skipSpaces wsX3_skipSpaces) := goodIn_app (goodIn_of _ (by decide +kernel)) ggX3_readNumber_X3_skipSpaces
set_option maxRecDepth 20000 in
theorem ggX3_readNumber_X3_isDigit : GoodIn wsX3_readNumber wsX3_isDigit := goodIn_r _ [11, 12, 13, 14] (by decide +kernel) (by decide +kernel)
set_option maxRecDepth 20000 in
theorem gX3_readNumber_X3_isDigit : GoodIn wsX3_readNumber (va_wsS RX3 59 yX3_isDigit wsX3_isDigit) := goodIn_app (goodIn_of _ (by decide +kernel)) ggX3_readNumber_X3_isDigit
set_option maxRecDepth 20000 in
theorem ggX3_readNumber_X3_fail : GoodIn wsX3_readNumber wsX3_fail := goodIn_r _ [18, 19, 20, 21, 22, 23] (by decide +kernel) (by decide +kernel)
set_option maxRecDepth 20000 in
theorem gX3_readNumber_X3_fail : GoodIn wsX3_readNumber (wsV RX3 63 RX3 yX3_fail wsX3_fail) := goodIn_app (goodIn_of _ (by decide +kernel)) ggX3_readNumber_X3_fail
set_option maxRecDepth 20000 in
theorem ggX3_readNumber_X4_isWithin : GoodIn wsX3_readNumber wsX4_isWithin := goodIn_r _ [14] (by decide +kernel) (by decide +kernel)
set_option maxRecDepth 20000 in
theorem gX3_readNumber_X4_isWithin_n67 : GoodIn wsX3_readNumber (wsX4_isWithin) := ggX3_readNumber_X4_isWithin
theorem dX3_readNumber_0 : decode cX3_readNumber 0 = .ok (.aload_n 0, 1) := by decide +kernel
theorem dX3_readNumber_1 : decode cX3_readNumber 1 = .ok (.invokevirtual 25, 3) := by decide +kernel
theorem dX3_readNumber_4 : decode cX3_readNumber 4 = .ok (.aload_n 0, 1) := by decide +kernel
theorem dX3_readNumber_5 : decode cX3_readNumber 5 = .ok (.getfield 22, 3) := by decide +kernel
theorem dX3_readNumber_8 : decode cX3_readNumber 8 = .ok (.istore 4, 2) := by decide +kernel
theorem dX3_readNumber_10 : decode cX3_readNumber 10 = .ok (.iconst 0, 1) := by decide +kernel
theorem dX3_readNumber_11 : decode cX3_readNumber 11 = .ok (.istore 5, 2) := by decide +kernel
theorem dX3_readNumber_13 : decode cX3_readNumber 13 = .ok (.aload_n 0, 1) := by decide +kernel
theorem dX3_readNumber_14 : decode cX3_readNumber 14 = .ok (.getfield 22, 3) := by decide +kernel
theorem dX3_readNumber_17 : decode cX3_readNumber 17 = .ok (.aload_n 0, 1) := by decide +kernel
theorem dX3_readNumber_18 : decode cX3_readNumber 18 = .ok (.getfield 15, 3) := by decide +kernel
theorem dX3_readNumber_21 : decode cX3_readNumber 21 = .ok (.if_icmp .ge 62, 3) := by decide +kernel
theorem dX3_readNumber_24 : decode cX3_readNumber 24 = .ok (.aload_n 0, 1) := by decide +kernel
theorem dX3_readNumber_25 : decode cX3_readNumber 25 = .ok (.getfield 22, 3) := by decide +kernel
theorem dX3_readNumber_28 : decode cX3_readNumber 28 = .ok (.iload 4, 2) := by decide +kernel
theorem dX3_readNumber_30 : decode cX3_readNumber 30 = .ok (.iload_n 1, 1) := by decide +kernel
theorem dX3_readNumber_31 : decode cX3_readNumber 31 = .ok (.iadd, 1) := by decide +kernel
theorem dX3_readNumber_32 : decode cX3_readNumber 32 = .ok (.if_icmp .ge 51, 3) := by decide +kernel
theorem dX3_readNumber_35 : decode cX3_readNumber 35 = .ok (.aload_n 0, 1) := by decide +kernel
theorem dX3_readNumber_36 : decode cX3_readNumber 36 = .ok (.getfield 9, 3) := by decide +kernel
theorem dX3_readNumber_39 : decode cX3_readNumber 39 = .ok (.aload_n 0, 1) := by decide +kernel
theorem dX3_readNumber_40 : decode cX3_readNumber 40 = .ok (.getfield 22, 3) := by decide +kernel
theorem dX3_readNumber_43 : decode cX3_readNumber 43 = .ok (.iaload, 1) := by decide +kernel
theorem dX3_readNumber_44 : decode cX3_readNumber 44 = .ok (.invokestatic 59, 3) := by decide +kernel
theorem dX3_readNumber_47 : decode cX3_readNumber 47 = .ok (.ifCond .eq 36, 3) := by decide +kernel
theorem dX3_readNumber_50 : decode cX3_readNumber 50 = .ok (.iload 5, 2) := by decide +kernel
theorem dX3_readNumber_52 : decode cX3_readNumber 52 = .ok (.bipush 10, 2) := by decide +kernel
theorem dX3_readNumber_54 : decode cX3_readNumber 54 = .ok (.imul, 1) := by decide +kernel
theorem dX3_readNumber_55 : decode cX3_readNumber 55 = .ok (.aload_n 0, 1) := by decide +kernel
theorem dX3_readNumber_56 : decode cX3_readNumber 56 = .ok (.getfield 9, 3) := by decide +kernel
theorem dX3_readNumber_59 : decode cX3_readNumber 59 = .ok (.aload_n 0, 1) := by decide +kernel
theorem dX3_readNumber_60 : decode cX3_readNumber 60 = .ok (.getfield 22, 3) := by decide +kernel
theorem dX3_readNumber_63 : decode cX3_readNumber 63 = .ok (.iaload, 1) := by decide +kernel
theorem dX3_readNumber_64 : decode cX3_readNumber 64 = .ok (.iadd, 1) := by decide +kernel
theorem dX3_readNumber_65 : decode cX3_readNumber 65 = .ok (.bipush 48, 2) := by decide +kernel
theorem dX3_readNumber_67 : decode cX3_readNumber 67 = .ok (.isub, 1) := by decide +kernel
theorem dX3_readNumber_68 : decode cX3_readNumber 68 = .ok (.istore 5, 2) := by decide +kernel
theorem dX3_readNumber_70 : decode cX3_readNumber 70 = .ok (.aload_n 0, 1) := by decide +kernel
theorem dX3_readNumber_71 : decode cX3_readNumber 71 = .ok (.dup, 1) := by decide +kernel
theorem dX3_readNumber_72 : decode cX3_readNumber 72 = .ok (.getfield 22, 3) := by decide +kernel
theorem dX3_readNumber_75 : decode cX3_readNumber 75 = .ok (.iconst 1, 1) := by decide +kernel
theorem dX3_readNumber_76 : decode cX3_readNumber 76 = .ok (.iadd, 1) := by decide +kernel
theorem dX3_readNumber_77 : decode cX3_readNumber 77 = .ok (.putfield 22, 3) := by decide +kernel
theorem dX3_readNumber_80 : decode cX3_readNumber 80 = .ok (.goto (-67), 3) := by decide +kernel
theorem dX3_readNumber_83 : decode cX3_readNumber 83 = .ok (.aload_n 0, 1) := by decide +kernel
theorem dX3_readNumber_84 : decode cX3_readNumber 84 = .ok (.getfield 22, 3) := by decide +kernel
theorem dX3_readNumber_87 : decode cX3_readNumber 87 = .ok (.iload 4, 2) := by decide +kernel
theorem dX3_readNumber_89 : decode cX3_readNumber 89 = .ok (.if_icmp .ne 10, 3) := by decide +kernel
theorem dX3_readNumber_92 : decode cX3_readNumber 92 = .ok (.aload_n 0, 1) := by decide +kernel
theorem dX3_readNumber_93 : decode cX3_readNumber 93 = .ok (.iload 4, 2) := by decide +kernel
theorem dX3_readNumber_95 : decode cX3_readNumber 95 = .ok (.invokevirtual 63, 3) := by decide +kernel
theorem dX3_readNumber_98 : decode cX3_readNumber 98 = .ok (.ireturn, 1) := by decide +kernel
theorem dX3_readNumber_99 : decode cX3_readNumber 99 = .ok (.aload_n 0, 1) := by decide +kernel
theorem dX3_readNumber_100 : decode cX3_readNumber 100 = .ok (.getfield 22, 3) := by decide +kernel
theorem dX3_readNumber_103 : decode cX3_readNumber 103 = .ok (.iload 4, 2) := by decide +kernel
theorem dX3_readNumber_105 : decode cX3_readNumber 105 = .ok (.iconst 1, 1) := by decide +kernel
theorem dX3_readNumber_106 : decode cX3_readNumber 106 = .ok (.iadd, 1) := by decide +kernel
theorem dX3_readNumber_107 : decode cX3_readNumber 107 = .ok (.if_icmp .le 15, 3) := by decide +kernel
theorem dX3_readNumber_110 : decode cX3_readNumber 110 = .ok (.aload_n 0, 1) := by decide +kernel
theorem dX3_readNumber_111 : decode cX3_readNumber 111 = .ok (.getfield 9, 3) := by decide +kernel
theorem dX3_readNumber_114 : decode cX3_readNumber 114 = .ok (.iload 4, 2) := by decide +kernel
theorem dX3_readNumber_116 : decode cX3_readNumber 116 = .ok (.iaload, 1) := by decide +kernel
theorem dX3_readNumber_117 : decode cX3_readNumber 117 = .ok (.bipush 48, 2) := by decide +kernel
theorem dX3_readNumber_119 : decode cX3_readNumber 119 = .ok (.if_icmp .eq 13, 3) := by decide +kernel
theorem dX3_readNumber_122 : decode cX3_readNumber 122 = .ok (.iload 5, 2) := by decide +kernel
theorem dX3_readNumber_124 : decode cX3_readNumber 124 = .ok (.iload_n 2, 1) := by decide +kernel
theorem dX3_readNumber_125 : decode cX3_readNumber 125 = .ok (.iload_n 3, 1) := by decide +kernel
theorem dX3_readNumber_126 : decode cX3_readNumber 126 = .ok (.invokestatic 67, 3) := by decide +kernel
theorem dX3_readNumber_129 : decode cX3_readNumber 129 = .ok (.ifCond .ne 10, 3) := by decide +kernel
theorem dX3_readNumber_132 : decode cX3_readNumber 132 = .ok (.aload_n 0, 1) := by decide +kernel
theorem dX3_readNumber_133 : decode cX3_readNumber 133 = .ok (.iload 4, 2) := by decide +kernel
theorem dX3_readNumber_135 : decode cX3_readNumber 135 = .ok (.invokevirtual 63, 3) := by decide +kernel
theorem dX3_readNumber_138 : decode cX3_readNumber 138 = .ok (.ireturn, 1) := by decide +kernel
theorem dX3_readNumber_139 : decode cX3_readNumber 139 = .ok (.iload 5, 2) := by decide +kernel
theorem dX3_readNumber_141 : decode cX3_readNumber 141 = .ok (.ireturn, 1) := by decide +kernel
set_option maxRecDepth 20000 in
theorem ggX3_isDigit_X4_isWithin : GoodIn wsX3_isDigit wsX4_isWithin := goodIn_r _ [3] (by decide +kernel) (by decide +kernel)
set_option maxRecDepth 20000 in
theorem gX3_isDigit_X4_isWithin_n67 : GoodIn wsX3_isDigit (wsX4_isWithin) := ggX3_isDigit_X4_isWithin
theorem dX3_isDigit_0 : decode cX3_isDigit 0 = .ok (.iload_n 0, 1) := by decide +kernel
theorem dX3_isDigit_1 : decode cX3_isDigit 1 = .ok (.bipush 48, 2) := by decide +kernel
theorem dX3_isDigit_3 : decode cX3_isDigit 3 = .ok (.bipush 57, 2) := by decide +kernel
theorem dX3_isDigit_5 : decode cX3_isDigit 5 = .ok (.invokestatic 67, 3) := by decide +kernel
theorem dX3_isDigit_8 : decode cX3_isDigit 8 = .ok (.ireturn, 1) := by decide +kernel
set_option maxRecDepth 20000 in
theorem ggX3_takes_X3_skipSpaces : GoodIn wsX3_takes wsX3_skipSpaces := goodIn_r _ [8, 1, 2, 3, 9, 10, 11, 12] (by decide +kernel) (by decide +kernel)
set_option maxRecDepth 20000 in
theorem gX3_takes_X3_skipSpaces : GoodIn wsX3_takes (wsV RX3 25 RX3 yX3_skipSpaces wsX3_skipSpaces) := goodIn_app (goodIn_of _ (by decide +kernel)) ggX3_takes_X3_skipSpaces
theorem dX3_takes_0 : decode cX3_takes 0 = .ok (.aload_n 0, 1) := by decide +kernel
theorem dX3_takes_1 : decode cX3_takes 1 = .ok (.invokevirtual 25, 3) := by decide +kernel
theorem dX3_takes_4 : decode cX3_takes 4 = .ok (.aload_n 0, 1) := by decide +kernel
theorem dX3_takes_5 : decode cX3_takes 5 = .ok (.getfield 22, 3) := by decide +kernel
theorem dX3_takes_8 : decode cX3_takes 8 = .ok (.aload_n 0, 1) := by decide +kernel
theorem dX3_takes_9 : decode cX3_takes 9 = .ok (.getfield 15, 3) := by decide +kernel
theorem dX3_takes_12 : decode cX3_takes 12 = .ok (.if_icmp .ge 16, 3) := by decide +kernel
theorem dX3_takes_15 : decode cX3_takes 15 = .ok (.aload_n 0, 1) := by decide +kernel
theorem dX3_takes_16 : decode cX3_takes 16 = .ok (.getfield 9, 3) := by decide +kernel
theorem dX3_takes_19 : decode cX3_takes 19 = .ok (.aload_n 0, 1) := by decide +kernel
theorem dX3_takes_20 : decode cX3_takes 20 = .ok (.getfield 22, 3) := by decide +kernel
theorem dX3_takes_23 : decode cX3_takes 23 = .ok (.iaload, 1) := by decide +kernel
theorem dX3_takes_24 : decode cX3_takes 24 = .ok (.iload_n 1, 1) := by decide +kernel
theorem dX3_takes_25 : decode cX3_takes 25 = .ok (.if_icmp .eq 5, 3) := by decide +kernel
theorem dX3_takes_28 : decode cX3_takes 28 = .ok (.iconst 0, 1) := by decide +kernel
theorem dX3_takes_29 : decode cX3_takes 29 = .ok (.ireturn, 1) := by decide +kernel
theorem dX3_takes_30 : decode cX3_takes 30 = .ok (.aload_n 0, 1) := by decide +kernel
theorem dX3_takes_31 : decode cX3_takes 31 = .ok (.dup, 1) := by decide +kernel
theorem dX3_takes_32 : decode cX3_takes 32 = .ok (.getfield 22, 3) := by decide +kernel
theorem dX3_takes_35 : decode cX3_takes 35 = .ok (.iconst 1, 1) := by decide +kernel
theorem dX3_takes_36 : decode cX3_takes 36 = .ok (.iadd, 1) := by decide +kernel
theorem dX3_takes_37 : decode cX3_takes 37 = .ok (.putfield 22, 3) := by decide +kernel
theorem dX3_takes_40 : decode cX3_takes 40 = .ok (.iconst 1, 1) := by decide +kernel
theorem dX3_takes_41 : decode cX3_takes 41 = .ok (.ireturn, 1) := by decide +kernel
set_option maxRecDepth 20000 in
theorem ggX3_expects_X3_takes : GoodIn wsX3_expects wsX3_takes := goodIn_r _ [6, 1, 7, 8, 9, 10, 11, 5, 12, 18, 19, 20, 21] (by decide +kernel) (by decide +kernel)
set_option maxRecDepth 20000 in
theorem gX3_expects_X3_takes : GoodIn wsX3_expects (wsV RX3 32 RX3 yX3_takes wsX3_takes) := goodIn_app (goodIn_of _ (by decide +kernel)) ggX3_expects_X3_takes
set_option maxRecDepth 20000 in
theorem ggX3_expects_X3_fail : GoodIn wsX3_expects wsX3_fail := goodIn_r _ [16, 17, 18, 19, 20, 21] (by decide +kernel) (by decide +kernel)
set_option maxRecDepth 20000 in
theorem gX3_expects_X3_fail : GoodIn wsX3_expects (wsV RX3 63 RX3 yX3_fail wsX3_fail) := goodIn_app (goodIn_of _ (by decide +kernel)) ggX3_expects_X3_fail
theorem dX3_expects_0 : decode cX3_expects 0 = .ok (.aload_n 0, 1) := by decide +kernel
theorem dX3_expects_1 : decode cX3_expects 1 = .ok (.iload_n 1, 1) := by decide +kernel
theorem dX3_expects_2 : decode cX3_expects 2 = .ok (.invokevirtual 32, 3) := by decide +kernel
theorem dX3_expects_5 : decode cX3_expects 5 = .ok (.ifCond .eq 5, 3) := by decide +kernel
theorem dX3_expects_8 : decode cX3_expects 8 = .ok (.iconst 1, 1) := by decide +kernel
theorem dX3_expects_9 : decode cX3_expects 9 = .ok (.ireturn, 1) := by decide +kernel
theorem dX3_expects_10 : decode cX3_expects 10 = .ok (.aload_n 0, 1) := by decide +kernel
theorem dX3_expects_11 : decode cX3_expects 11 = .ok (.aload_n 0, 1) := by decide +kernel
theorem dX3_expects_12 : decode cX3_expects 12 = .ok (.getfield 22, 3) := by decide +kernel
theorem dX3_expects_15 : decode cX3_expects 15 = .ok (.invokevirtual 63, 3) := by decide +kernel
theorem dX3_expects_18 : decode cX3_expects 18 = .ok (.pop, 1) := by decide +kernel
theorem dX3_expects_19 : decode cX3_expects 19 = .ok (.iconst 0, 1) := by decide +kernel
theorem dX3_expects_20 : decode cX3_expects 20 = .ok (.ireturn, 1) := by decide +kernel
theorem dX3_fail_0 : decode cX3_fail 0 = .ok (.aload_n 0, 1) := by decide +kernel
theorem dX3_fail_1 : decode cX3_fail 1 = .ok (.iload_n 1, 1) := by decide +kernel
theorem dX3_fail_2 : decode cX3_fail 2 = .ok (.putfield 19, 3) := by decide +kernel
theorem dX3_fail_5 : decode cX3_fail 5 = .ok (.iconst (-1), 1) := by decide +kernel
theorem dX3_fail_6 : decode cX3_fail 6 = .ok (.ireturn, 1) := by decide +kernel
theorem dX3_skipSpaces_0 : decode cX3_skipSpaces 0 = .ok (.aload_n 0, 1) := by decide +kernel
theorem dX3_skipSpaces_1 : decode cX3_skipSpaces 1 = .ok (.getfield 22, 3) := by decide +kernel
theorem dX3_skipSpaces_4 : decode cX3_skipSpaces 4 = .ok (.aload_n 0, 1) := by decide +kernel
theorem dX3_skipSpaces_5 : decode cX3_skipSpaces 5 = .ok (.getfield 15, 3) := by decide +kernel
theorem dX3_skipSpaces_8 : decode cX3_skipSpaces 8 = .ok (.if_icmp .ge 30, 3) := by decide +kernel
theorem dX3_skipSpaces_11 : decode cX3_skipSpaces 11 = .ok (.aload_n 0, 1) := by decide +kernel
theorem dX3_skipSpaces_12 : decode cX3_skipSpaces 12 = .ok (.getfield 9, 3) := by decide +kernel
theorem dX3_skipSpaces_15 : decode cX3_skipSpaces 15 = .ok (.aload_n 0, 1) := by decide +kernel
theorem dX3_skipSpaces_16 : decode cX3_skipSpaces 16 = .ok (.getfield 22, 3) := by decide +kernel
theorem dX3_skipSpaces_19 : decode cX3_skipSpaces 19 = .ok (.iaload, 1) := by decide +kernel
theorem dX3_skipSpaces_20 : decode cX3_skipSpaces 20 = .ok (.bipush 32, 2) := by decide +kernel
theorem dX3_skipSpaces_22 : decode cX3_skipSpaces 22 = .ok (.if_icmp .ne 16, 3) := by decide +kernel
theorem dX3_skipSpaces_25 : decode cX3_skipSpaces 25 = .ok (.aload_n 0, 1) := by decide +kernel
theorem dX3_skipSpaces_26 : decode cX3_skipSpaces 26 = .ok (.dup, 1) := by decide +kernel
theorem dX3_skipSpaces_27 : decode cX3_skipSpaces 27 = .ok (.getfield 22, 3) := by decide +kernel
theorem dX3_skipSpaces_30 : decode cX3_skipSpaces 30 = .ok (.iconst 1, 1) := by decide +kernel
theorem dX3_skipSpaces_31 : decode cX3_skipSpaces 31 = .ok (.iadd, 1) := by decide +kernel
theorem dX3_skipSpaces_32 : decode cX3_skipSpaces 32 = .ok (.putfield 22, 3) := by decide +kernel
theorem dX3_skipSpaces_35 : decode cX3_skipSpaces 35 = .ok (.goto (-35), 3) := by decide +kernel
theorem dX3_skipSpaces_38 : decode cX3_skipSpaces 38 = .ok (.return_, 1) := by decide +kernel
theorem dJ9_abs_0f7a4_0 : decode cJ9_abs_0f7a4 0 = .ok (.iload_n 0, 1) := by decide +kernel
theorem dJ9_abs_0f7a4_1 : decode cJ9_abs_0f7a4 1 = .ok (.ifCond .ge 8, 3) := by decide +kernel
theorem dJ9_abs_0f7a4_4 : decode cJ9_abs_0f7a4 4 = .ok (.iload_n 0, 1) := by decide +kernel
theorem dJ9_abs_0f7a4_5 : decode cJ9_abs_0f7a4 5 = .ok (.ineg, 1) := by decide +kernel
theorem dJ9_abs_0f7a4_6 : decode cJ9_abs_0f7a4 6 = .ok (.goto 4, 3) := by decide +kernel
theorem dJ9_abs_0f7a4_9 : decode cJ9_abs_0f7a4 9 = .ok (.iload_n 0, 1) := by decide +kernel
theorem dJ9_abs_0f7a4_10 : decode cJ9_abs_0f7a4 10 = .ok (.ireturn, 1) := by decide +kernel
theorem dJ9_max_7cf53_0 : decode cJ9_max_7cf53 0 = .ok (.iload_n 0, 1) := by decide +kernel
theorem dJ9_max_7cf53_1 : decode cJ9_max_7cf53 1 = .ok (.iload_n 1, 1) := by decide +kernel
theorem dJ9_max_7cf53_2 : decode cJ9_max_7cf53 2 = .ok (.if_icmp .lt 7, 3) := by decide +kernel
theorem dJ9_max_7cf53_5 : decode cJ9_max_7cf53 5 = .ok (.iload_n 0, 1) := by decide +kernel
theorem dJ9_max_7cf53_6 : decode cJ9_max_7cf53 6 = .ok (.goto 4, 3) := by decide +kernel
theorem dJ9_max_7cf53_9 : decode cJ9_max_7cf53 9 = .ok (.iload_n 1, 1) := by decide +kernel
theorem dJ9_max_7cf53_10 : decode cJ9_max_7cf53 10 = .ok (.ireturn, 1) := by decide +kernel
theorem dJ9_min_7cf53_0 : decode cJ9_min_7cf53 0 = .ok (.iload_n 0, 1) := by decide +kernel
theorem dJ9_min_7cf53_1 : decode cJ9_min_7cf53 1 = .ok (.iload_n 1, 1) := by decide +kernel
theorem dJ9_min_7cf53_2 : decode cJ9_min_7cf53 2 = .ok (.if_icmp .gt 7, 3) := by decide +kernel
theorem dJ9_min_7cf53_5 : decode cJ9_min_7cf53 5 = .ok (.iload_n 0, 1) := by decide +kernel
theorem dJ9_min_7cf53_6 : decode cJ9_min_7cf53 6 = .ok (.goto 4, 3) := by decide +kernel
theorem dJ9_min_7cf53_9 : decode cJ9_min_7cf53 9 = .ok (.iload_n 1, 1) := by decide +kernel
theorem dJ9_min_7cf53_10 : decode cJ9_min_7cf53 10 = .ok (.ireturn, 1) := by decide +kernel
theorem dJ7_fill_53178_0 : decode cJ7_fill_53178 0 = .ok (.iconst 0, 1) := by decide +kernel
theorem dJ7_fill_53178_1 : decode cJ7_fill_53178 1 = .ok (.istore_n 2, 1) := by decide +kernel
theorem dJ7_fill_53178_2 : decode cJ7_fill_53178 2 = .ok (.aload_n 0, 1) := by decide +kernel
theorem dJ7_fill_53178_3 : decode cJ7_fill_53178 3 = .ok (.arraylength, 1) := by decide +kernel
theorem dJ7_fill_53178_4 : decode cJ7_fill_53178 4 = .ok (.istore_n 3, 1) := by decide +kernel
theorem dJ7_fill_53178_5 : decode cJ7_fill_53178 5 = .ok (.iload_n 2, 1) := by decide +kernel
theorem dJ7_fill_53178_6 : decode cJ7_fill_53178 6 = .ok (.iload_n 3, 1) := by decide +kernel
theorem dJ7_fill_53178_7 : decode cJ7_fill_53178 7 = .ok (.if_icmp .ge 13, 3) := by decide +kernel
theorem dJ7_fill_53178_10 : decode cJ7_fill_53178 10 = .ok (.aload_n 0, 1) := by decide +kernel
theorem dJ7_fill_53178_11 : decode cJ7_fill_53178 11 = .ok (.iload_n 2, 1) := by decide +kernel
theorem dJ7_fill_53178_12 : decode cJ7_fill_53178 12 = .ok (.iload_n 1, 1) := by decide +kernel
theorem dJ7_fill_53178_13 : decode cJ7_fill_53178 13 = .ok (.iastore, 1) := by decide +kernel
theorem dJ7_fill_53178_14 : decode cJ7_fill_53178 14 = .ok (.iinc 2 1, 3) := by decide +kernel
theorem dJ7_fill_53178_17 : decode cJ7_fill_53178 17 = .ok (.goto (-12), 3) := by decide +kernel
theorem dJ7_fill_53178_20 : decode cJ7_fill_53178 20 = .ok (.return_, 1) := by decide +kernel
end
section
/-! functional programs: their pieces -/
def nm {α β : Type} (e : α) (k : α → β) : β := k e
def ix {α : Type} (i : Int32) (n : Nat) (k : Option α) : Option α := if 0 ≤ i.toInt ∧ i.toInt < (n : Int) then k else none
def rq {α : Type} (c : Bool) (k : Option α) : Option α := match c with | true => k | false => none
def bd {α β : Type} (x : Option α) (k : α → Option β) : Option β := match x with | some a => k a | none => none
def jn {κ β : Type} (K : κ) (M : κ → β) : β := M K
def sm {α β γ : Type} (x : α ⊕ β) (f : α → γ) (g : β → γ) : γ := match x with | .inl a => f a | .inr b => g b
def bI (b : Bool) : Int32 := if b then 1 else 0
theorem nm_i {α β : Type} {e : α} {k : α → β} {y : β} (h : nm e k = y) {x : α} (hx : x = e) : k x = y := by rw [hx]; exact h
theorem ix_i {α : Type} {i : Int32} {n : Nat} {k : Option α} {y : α} (h : ix i n k = some y) : vp_in i n ∧ k = some y := by
  unfold ix at h
  split at h
  · rename_i c
    exact ⟨vp_in_iff.mpr c, h⟩
  · cases h
theorem rq_i {α : Type} {c : Bool} {k : Option α} {y : α} (h : rq c k = some y) : c = true ∧ k = some y := by
  cases c with
  | true => exact ⟨rfl, h⟩
  | false => cases h
theorem bd_i {α β : Type} {x : Option α} {k : α → Option β} {y : β} (h : bd x k = some y) : ∃ a, x = some a ∧ k a = some y := by
  cases x with
  | some a => exact ⟨a, rfl, h⟩
  | none => cases h
theorem jn_i {κ β : Type} {K : κ} {M : κ → β} {y : β} (h : jn K M = y) : ∃ K', K' = K ∧ M K' = y := ⟨K, rfl, h⟩
theorem it_t {α : Type} {c : Prop} [Decidable c] {a b y : α} (h : (if c then a else b) = y) (hc : c) : a = y := by rw [if_pos hc] at h; exact h
theorem it_f {α : Type} {c : Prop} [Decidable c] {a b y : α} (h : (if c then a else b) = y) (hc : ¬ c) : b = y := by rw [if_neg hc] at h; exact h
theorem nar_bI (b : Bool) : narrow .boolean (.int (bI b)) = .int (bI b) := by cases b <;> rfl
theorem sw_out {x : Int32} {lo hi : Int} (h : ∀ k : Int, lo ≤ k → k ≤ hi → ¬ x = Int32.ofInt k) : x.toInt < lo ∨ hi < x.toInt := by
  by_cases a : x.toInt < lo
  · exact Or.inl a
  · by_cases b : hi < x.toInt
    · exact Or.inr b
    · exact absurd (by rw [Int32.ofInt_toInt]) (h x.toInt (by omega) (by omega))
/-! blocks of a world -/
def adr (ws : va_W) : List Nat := ws.map (fun q => q.1)
def pick (B : List va_W) (is : List Nat) : List va_W := is.filterMap (fun i => B[i]?)
theorem va_P_mem {D : va_G} {cl : List vw_C} {ws : va_W} {H : Heap} : va_P D cl ws H ↔ ∀ q ∈ ws, va_at D cl q H := by
  constructor
  · intro h q hq
    obtain ⟨k, hk⟩ := List.getElem?_of_mem hq
    exact h k q hk
  · intro h k q hk
    exact h q (List.mem_of_getElem? hk)
theorem va_D_iff {A : Nat → Prop} {ws : va_W} : va_D A ws ↔ (adr ws).Nodup ∧ ∀ a ∈ adr ws, A a := by
  constructor
  · intro h
    refine ⟨?_, fun a ha => ?_⟩
    · unfold List.Nodup
      rw [List.pairwise_iff_getElem]
      intro i j hi hj hij e
      unfold adr at e hi hj
      rw [List.length_map] at hi hj
      rw [List.getElem_map, List.getElem_map] at e
      have := h.1 i j _ _ (List.getElem?_eq_getElem hi) (List.getElem?_eq_getElem hj) e
      omega
    · obtain ⟨q, hq, rfl⟩ := List.mem_map.mp ha
      obtain ⟨k, hk⟩ := List.getElem?_of_mem hq
      exact h.2 k q hk
  · intro ⟨hn, hA⟩
    refine ⟨fun i j p q hi hj e => ?_, fun k q hk => hA _ (List.mem_map.mpr ⟨q, List.mem_of_getElem? hk, rfl⟩)⟩
    unfold List.Nodup at hn
    rw [List.pairwise_iff_getElem] at hn
    have key : ∀ (i j : Nat) (p q : Nat × va_E), ws[i]? = some p → ws[j]? = some q → p.1 = q.1 → ¬ i < j := by
      intro i j p q hi hj e hlt
      obtain ⟨hil, ei⟩ := List.getElem?_eq_some_iff.mp hi
      obtain ⟨hjl, ej⟩ := List.getElem?_eq_some_iff.mp hj
      refine hn i j (by unfold adr; rw [List.length_map]; exact hil) (by unfold adr; rw [List.length_map]; exact hjl) hlt ?_
      unfold adr
      rw [List.getElem_map, List.getElem_map, ei, ej]
      exact e
    rcases Nat.lt_trichotomy i j with a | a | a
    · exact absurd a (key i j p q hi hj e)
    · exact a
    · exact absurd a (key j i q p hj hi e.symm)
theorem va_D_adr {A : Nat → Prop} {ws ws' : va_W} (h : va_D A ws) (e : adr ws' = adr ws) : va_D A ws' := by
  rw [va_D_iff] at h ⊢
  rw [e]
  exact h
theorem va_A_adr {ws ws' : va_W} {sz q : Nat} (e : adr ws' = adr ws) (h : va_A ws sz q) : va_A ws' sz q := by
  rcases h with ⟨k, x, h⟩ | h
  · have hm : q ∈ adr ws' := by rw [e]; exact List.mem_map.mpr ⟨(q, x), List.mem_of_getElem? h, rfl⟩
    obtain ⟨y, hy, rfl⟩ := List.mem_map.mp hm
    obtain ⟨j, hj⟩ := List.getElem?_of_mem hy
    exact Or.inl ⟨j, y.2, hj⟩
  · exact Or.inr h
theorem va_A_mem {ws : va_W} {sz q : Nat} : va_A ws sz q ↔ q ∈ adr ws ∨ sz ≤ q := by
  constructor
  · rintro (⟨k, x, h⟩ | h)
    · exact Or.inl (List.mem_map.mpr ⟨(q, x), List.mem_of_getElem? h, rfl⟩)
    · exact Or.inr h
  · rintro (h | h)
    · obtain ⟨y, hy, rfl⟩ := List.mem_map.mp h
      obtain ⟨j, hj⟩ := List.getElem?_of_mem hy
      exact Or.inl ⟨j, y.2, hj⟩
    · exact Or.inr h
theorem pick_mem {B : List va_W} {is : List Nat} {q : Nat × va_E} : q ∈ (pick B is).flatten ↔ ∃ i ∈ is, ∃ b, B[i]? = some b ∧ q ∈ b := by
  unfold pick
  constructor
  · intro h
    obtain ⟨b, hb, hq⟩ := List.mem_flatten.mp h
    obtain ⟨i, hi, e⟩ := List.mem_filterMap.mp hb
    exact ⟨i, hi, b, e, hq⟩
  · rintro ⟨i, hi, b, e, hq⟩
    exact List.mem_flatten.mpr ⟨b, List.mem_filterMap.mpr ⟨i, hi, e⟩, hq⟩
theorem pick_P {D : va_G} {cl : List vw_C} {B : List va_W} {H : Heap} (h : va_P D cl B.flatten H) (is : List Nat) : va_P D cl (pick B is).flatten H := by
  rw [va_P_mem] at h ⊢
  intro q hq
  obtain ⟨i, -, b, e, hb⟩ := pick_mem.mp hq
  exact h q (List.mem_flatten.mpr ⟨b, List.mem_of_getElem? e, hb⟩)
/-- places among blocks: no place twice -/
theorem pick_nodup {B : List va_W} (h : (adr B.flatten).Nodup) : ∀ (is : List Nat), is.Nodup → (adr (pick B is).flatten).Nodup ∧ ∀ i ∈ is, True := by
  have apart : ∀ (B : List va_W), (adr B.flatten).Nodup → ∀ (i j : Nat) (b c : va_W), i < j → B[i]? = some b → B[j]? = some c → ∀ a ∈ adr b, a ∉ adr c := by
    intro B
    induction B with
    | nil => intro _ i j b c _ hb; simp at hb
    | cons x xs ih =>
      intro hn i j b c hij hb hc a ha hac
      unfold adr at hn ha hac
      rw [List.flatten_cons, List.map_append, List.nodup_append] at hn
      cases j with
      | zero => omega
      | succ j =>
        rw [List.getElem?_cons_succ] at hc
        cases i with
        | zero =>
          rw [List.getElem?_cons_zero] at hb
          cases hb
          obtain ⟨q, hq, rfl⟩ := List.mem_map.mp hac
          exact hn.2.2 _ ha _ (List.mem_map.mpr ⟨q, List.mem_flatten.mpr ⟨c, List.mem_of_getElem? hc, hq⟩, rfl⟩) rfl
        | succ i =>
          rw [List.getElem?_cons_succ] at hb
          exact ih (by unfold adr; exact hn.2.1) i j b c (by omega) hb hc a (by unfold adr; exact ha) (by unfold adr; exact hac)
  have own : ∀ (B : List va_W), (adr B.flatten).Nodup → ∀ b ∈ B, (adr b).Nodup := by
    intro B
    induction B with
    | nil => intro _ b hb; cases hb
    | cons x xs ih =>
      intro hn b hb
      unfold adr at hn
      rw [List.flatten_cons, List.map_append, List.nodup_append] at hn
      rcases List.mem_cons.mp hb with rfl | hb
      · exact hn.1
      · exact ih (by unfold adr; exact hn.2.1) b hb
  intro is
  induction is with
  | nil => intro _; exact ⟨by unfold adr pick; simp, fun _ _ => trivial⟩
  | cons i is ih =>
    intro hn
    rw [List.nodup_cons] at hn
    refine ⟨?_, fun _ _ => trivial⟩
    unfold pick
    rw [List.filterMap_cons]
    cases hb : B[i]? with
    | none => exact (ih hn.2).1
    | some b =>
      show (adr (b :: pick B is).flatten).Nodup
      unfold adr
      rw [List.flatten_cons, List.map_append, List.nodup_append]
      refine ⟨own B h b (List.mem_of_getElem? hb), (ih hn.2).1, ?_⟩
      intro a ha a2 ha2 e
      subst e
      obtain ⟨q, hq, rfl⟩ := List.mem_map.mp ha2
      obtain ⟨j, hj, c, hc, hqc⟩ := pick_mem.mp hq
      have hij : i ≠ j := fun e => hn.1 (e ▸ hj)
      rcases Nat.lt_or_gt_of_ne hij with l | l
      · exact apart B h i j b c l hb hc q.1 ha (List.mem_map.mpr ⟨q, hqc, rfl⟩)
      · exact apart B h j i c b l hc hb q.1 (List.mem_map.mpr ⟨q, hqc, rfl⟩) ha
theorem pick_D {A A' : Nat → Prop} {B : List va_W} (h : va_D A B.flatten) (is : List Nat) (hn : is.Nodup) (hA : ∀ a, a ∈ adr (pick B is).flatten → A a → A' a) : va_D A' (pick B is).flatten := by
  rw [va_D_iff] at h ⊢
  refine ⟨(pick_nodup h.1 is hn).1, fun a ha => hA a ha (h.2 a ?_)⟩
  obtain ⟨q, hq, rfl⟩ := List.mem_map.mp ha
  obtain ⟨i, -, b, e, hb⟩ := pick_mem.mp hq
  exact List.mem_map.mpr ⟨q, List.mem_flatten.mpr ⟨b, List.mem_of_getElem? e, hb⟩, rfl⟩
theorem pick_A {A : Nat → Prop} {B : List va_W} {sz q : Nat} (h : va_D A B.flatten) (hA : ∀ q, sz ≤ q → A q) (is : List Nat) (hq : va_A (pick B is).flatten sz q) : A q := by
  rw [va_D_iff] at h
  rcases va_A_mem.mp hq with hm | hm
  · obtain ⟨y, hy, rfl⟩ := List.mem_map.mp hm
    obtain ⟨i, -, b, e, hb⟩ := pick_mem.mp hy
    exact h.2 _ (List.mem_map.mpr ⟨y, List.mem_flatten.mpr ⟨b, List.mem_of_getElem? e, hb⟩, rfl⟩)
  · exact hA q hm
/-- the frame rule, by blocks: the callee's blocks isC are new, the others isR are as they were -/
theorem blk_join {D : va_G} {cl : List vw_C} {A : Nat → Prop} {B B1 : List va_W} {H H1 : Heap} (isC isR : List Nat) (hP : va_P D cl B.flatten H) (hD : va_D A B.flatten)
    (hk : ∀ q : Nat, q < H.size → ¬ va_A (pick B isC).flatten H.size q → H1[q]? = H[q]?) (hP1 : va_P D cl (pick B1 isC).flatten H1)
    (hR : pick B1 isR = pick B isR) (N : Nat) (hN : B1.length = N) (hall : ∀ i, i < N → i ∈ isC ∨ i ∈ isR) (hn : (isC ++ isR).Nodup) : va_P D cl B1.flatten H1 := by
  rw [va_P_mem]
  intro q hq
  obtain ⟨b, hb, hqb⟩ := List.mem_flatten.mp hq
  obtain ⟨i, hi⟩ := List.getElem?_of_mem hb
  have hil : i < B1.length := (List.getElem?_eq_some_iff.mp hi).1
  rcases hall i (hN ▸ hil) with h | h
  · exact va_P_mem.mp hP1 q (pick_mem.mpr ⟨i, h, b, hi, hqb⟩)
  · have hm : q ∈ (pick B isR).flatten := by rw [← hR]; exact pick_mem.mpr ⟨i, h, b, hi, hqb⟩
    obtain ⟨j, hj, b2, hb2, hq2⟩ := pick_mem.mp hm
    have h0 := va_P_mem.mp hP q (List.mem_flatten.mpr ⟨b2, List.mem_of_getElem? hb2, hq2⟩)
    refine h0.kept (hk q.1 h0.lt ?_)
    intro hA
    rcases va_A_mem.mp hA with hA | hA
    · have hd := (pick_nodup (va_D_iff.mp hD).1 (isC ++ isR) hn).1
      have e : pick B (isC ++ isR) = pick B isC ++ pick B isR := by unfold pick; exact List.filterMap_append ..
      unfold adr at hd hA
      rw [e, List.flatten_append, List.map_append, List.nodup_append] at hd
      exact hd.2.2 _ hA _ (List.mem_map.mpr ⟨q, hm, rfl⟩) rfl
    · exact absurd h0.lt (by omega)
/-! what every contract takes and gives -/
abbrev ty4 (cT : Nat → ClassId) : List (ClassId × FieldType) := [(cT 0, .int), (cT 1, .boolean), (cT 2, .byte), (cT 3, .object "BallastTrack$State")]
def tF (j : Nat) : Int32 := match j with | 0 => 4 | 1 => 10 | 2 => 3 | 3 => 20 | 4 => 40 | 5 => 80 | 6 => 200 | _ => 5
def tL (j : Nat) : Int32 := match j with | 0 => 1 | 1 => 0 | 2 => 1 | 3 => 1 | 4 => 1 | 5 => 1 | 6 => 10 | _ => 1
def tG (j : Nat) : Int32 := match j with | 0 => 20 | 1 => 99 | 2 => 5 | 3 => 2000 | 4 => 2000 | 5 => 2000 | 6 => 500 | _ => 50
def STat (n : String) (f : Nat → Int32) (A : Nat → Prop) (U : State) (H : Heap) : Prop := ∃ t : Nat, va_Z "BallastTrack" n "[I" (.ref t) A U H ∧ va_T .int t 8 (fun j => .int (f j)) A U H
def STs (A : Nat → Prop) (U : State) (H : Heap) : Prop := STat "FIRST_NUMBERS" tF A U H ∧ STat "LEAST_NUMBERS" tL A U H ∧ STat "GREATEST_NUMBERS" tG A U H
theorem STat.to {n : String} {f : Nat → Int32} {A B : Nat → Prop} {u U : State} {H H1 : Heap} (h : STat n f A u H) (hvm : u.vm.Alike U.vm) (hq : ∀ a : Nat, a < H.size → ¬ A a → H1[a]? = H[a]?) (hAB : ∀ q, B q → A q) : STat n f B U H1 := by
  obtain ⟨t, h1, h2⟩ := h
  exact ⟨t, ((h1.moved hvm).kept hq).narrow hAB, ((h2.moved hvm).kept hq).narrow hAB⟩
theorem STs.to {A B : Nat → Prop} {u U : State} {H H1 : Heap} (h : STs A u H) (hvm : u.vm.Alike U.vm) (hq : ∀ a : Nat, a < H.size → ¬ A a → H1[a]? = H[a]?) (hAB : ∀ q, B q → A q) : STs B U H1 :=
  ⟨h.1.to hvm hq hAB, h.2.1.to hvm hq hAB, h.2.2.to hvm hq hAB⟩
def NWs (U : State) : Prop := va_Nw (.methodLinkNest RX4 40 yX3_init "BallastTrack") U ∧ va_Nw (.methodLinkNest RX1 55 yX4_isWithin "BallastTrack") U ∧ va_Nw (.methodLinkNest RX3 67 yX4_isWithin "BallastTrack") U ∧ va_Nw (.methodLinkNest RX1 75 yX4_minutesFor "BallastTrack") U ∧ va_Nw (.methodLinkNest RX2 63 yX4_isWithin "BallastTrack") U ∧ va_Nw (.fieldLinkNest RX1 40 "BallastTrack" "FIRST_NUMBERS" "[I" "BallastTrack") U
theorem NWs.same {u U : State} (e : u.vm = U.vm) (h : NWs u) : NWs U := ⟨h.1.same rfl e, h.2.1.same rfl e, h.2.2.1.same rfl e, h.2.2.2.1.same rfl e, h.2.2.2.2.1.same rfl e, h.2.2.2.2.2.same rfl e⟩
theorem NWs.warm {s U : State} (hW : s.WarmedH U.vm) (h : NWs s) : NWs U := ⟨va_Nw.warmM hW h.1, va_Nw.warmM hW h.2.1, va_Nw.warmM hW h.2.2.1, va_Nw.warmM hW h.2.2.2.1, va_Nw.warmM hW h.2.2.2.2.1, va_Nw.warmF hW h.2.2.2.2.2⟩
def PRE (D : va_G) (cT : Nat → ClassId) (sz : Nat) (W : va_W) (U : State) : Prop := U.heap.size = sz ∧ va_P D vwCl W U.heap ∧ va_K D vwCl (ty4 cT) U ∧ va_D (fun _ => True) W ∧ NWs U ∧ STs (va_A W sz) U U.heap
abbrev QI (D : va_G) (r0 : Int32) (W : va_W) (A : Nat → Prop) : Array Value → State → Outcome → State → Prop := va_Qi (fun (r : Int32) (_ : Unit) => r = r0) (fun (_ : Unit) (t : State) => va_P D vwCl W t.heap) A
abbrev QV (D : va_G) (W : va_W) (A : Nat → Prop) : Array Value → State → Outcome → State → Prop := va_Qv (fun (_ : Unit) => True) (fun (_ : Unit) (t : State) => va_P D vwCl W t.heap) A
theorem PRE_blind {av : List Value} {D : va_G} {cT : Nat → ClassId} {sz : Nat} {W : va_W} : FrameBlind (va_Pc av (PRE D cT sz W)) := fun a U g mk q => by
  obtain ⟨q0, q1, qP, qK, qD, qN, qZ⟩ := q
  exact ⟨q0, q1, qP, va_K.moved (u := U) (U := U.calling g mk a) (Vm.Alike.refl U.vm) qK, qD, NWs.same (u := U) (U := U.calling g mk a) rfl qN, STs.to (u := U) (U := U.calling g mk a) qZ (Vm.Alike.refl U.vm) (fun _ _ _ => rfl) (fun _ h => h)⟩
theorem PRE_ok {av : List Value} {D : va_G} {cT : Nat → ClassId} {A : Nat → Prop} {B : List va_W} {H : Heap} {locs : List Loc} {s : State} (is : List Nat) (hn : is.Nodup) (hP : va_P D vwCl B.flatten H) (hD : va_D A B.flatten) (hA : ∀ q, s.heap.size ≤ q → A q) (hS : va_S A s.heap H locs) (hK : va_K D vwCl (ty4 cT) s) (hN : NWs s) (hZ : STs A s s.heap) :
    ∀ U : State, U.heap = H → s.WarmedH U.vm → va_Pc av (PRE D cT H.size (pick B is).flatten) av.toArray U := by
  intro U hU hW
  refine ⟨rfl, by rw [hU], by rw [hU]; exact pick_P hP is, va_K.moved hW.alike hK, pick_D hD is hn (fun _ _ _ => trivial), hN.warm hW, ?_⟩
  rw [hU]
  exact hZ.to hW.alike hS.2.1 (fun q h => pick_A (sz := H.size) hD (fun z hz => hA z (Nat.le_trans hS.1 hz)) is h)
section CL
variable {p : Program} {l : Launch} {e : Env} {R : Room} {s : State} {m : MethodId} {args : Array Value} {below : List Frame} {meth : Method} {c : Code} {H : Heap} {locs : List Loc} {Q : State → Prop}
variable {pc : Nat} {ls : Array Slot} {rest st0 : List Value} {a : Array Value} {A : Nat → Prop} {D : va_G} {B B1 : List va_W}
theorem cl_i {r0 : Int32} (isC isR : List Nat) (B1 : List va_W) (hP : va_P D vwCl B.flatten H) (hD : va_D A B.flatten) (hA : ∀ q, s.heap.size ≤ q → A q) (hS : va_S A s.heap H locs)
    (hr : va_Run p l e R s m args below meth c H locs 0 0 0 0 (F0 m pc ls st0) rest (QI D r0 (pick B1 isC).flatten (va_A (pick B isC).flatten H.size) a) (va_A (pick B isC).flatten H.size))
    (hR : pick B1 isR = pick B isR) (N : Nat) (hN : B1.length = N) (hall : ∀ i, i < N → i ∈ isC ∨ i ∈ isR) (hn : (isC ++ isR).Nodup)
    (k : ∀ (H1 : Heap) (locs1 : List Loc), va_P D vwCl B1.flatten H1 → va_S A s.heap H1 locs1 → W p l e R s m args below meth c H1 locs1 0 0 Q (F0 m (pc + 3) ls (.int r0 :: rest))) : W p l e R s m args below meth c H locs 0 0 Q (F0 m pc ls st0) := by
  have hF : ∀ q, va_A (pick B isC).flatten H.size q → A q := fun q h => pick_A (sz := H.size) hD (fun z hz => hA z (Nat.le_trans hS.1 hz)) isC h
  refine va_calli hr hS (fun q _ h => hF q h) hF (fun r u t H1 locs1 ht hvm hw hB hz hk hS1 => ?_)
  subst hw
  rw [ht] at hB
  exact k H1 locs1 (blk_join isC isR hP hD hk hB hR N hN hall hn) hS1
theorem cl_v (isC isR : List Nat) (B1 : List va_W) (hP : va_P D vwCl B.flatten H) (hD : va_D A B.flatten) (hA : ∀ q, s.heap.size ≤ q → A q) (hS : va_S A s.heap H locs)
    (hr : va_Run p l e R s m args below meth c H locs 0 0 0 0 (F0 m pc ls st0) rest (QV D (pick B1 isC).flatten (va_A (pick B isC).flatten H.size) a) (va_A (pick B isC).flatten H.size))
    (hR : pick B1 isR = pick B isR) (N : Nat) (hN : B1.length = N) (hall : ∀ i, i < N → i ∈ isC ∨ i ∈ isR) (hn : (isC ++ isR).Nodup)
    (k : ∀ (H1 : Heap) (locs1 : List Loc), va_P D vwCl B1.flatten H1 → va_S A s.heap H1 locs1 → W p l e R s m args below meth c H1 locs1 0 0 Q (F0 m (pc + 3) ls rest)) : W p l e R s m args below meth c H locs 0 0 Q (F0 m pc ls st0) := by
  have hF : ∀ q, va_A (pick B isC).flatten H.size q → A q := fun q h => pick_A (sz := H.size) hD (fun z hz => hA z (Nat.le_trans hS.1 hz)) isC h
  refine va_callv hr hS (fun q _ h => hF q h) hF (fun u t H1 locs1 ht hvm hw hB hz hk hS1 => ?_)
  rw [ht] at hB
  exact k H1 locs1 (blk_join isC isR hP hD hk hB hR N hN hall hn) hS1
theorem en_i {cc : ByteArray} {v : Int32} {Wd : va_W} (hx : p.tables.exec = Jvm.exec) (hb : c.code = cc) (hr : meth.sig.returnType = some .int) (hP : va_P D vwCl Wd H) (hS : va_S A s.heap H locs) (hlocks : meth.locks = false) (hdg : decode cc pc = .ok (.ireturn, 1)) : W p l e R s m args below meth c H locs 0 0 (MQ below (QI D v Wd A) args s 0 0 A) (F0 m pc ls [.int v]) :=
  W.iret (v := v) hx hb hr (fun t ht hW => ⟨⟨v, (), rfl, rfl, by show va_P D vwCl Wd t.heap; rw [ht]; exact hP⟩, hS.F ht⟩) hS.2.2 hdg hlocks
theorem en_z {cc : ByteArray} {v : Bool} {Wd : va_W} (hx : p.tables.exec = Jvm.exec) (hb : c.code = cc) (hr : meth.sig.returnType = some .boolean) (hP : va_P D vwCl Wd H) (hS : va_S A s.heap H locs) (hlocks : meth.locks = false) (hdg : decode cc pc = .ok (.ireturn, 1)) : W p l e R s m args below meth c H locs 0 0 (MQ below (QI D (bI v) Wd A) args s 0 0 A) (F0 m pc ls [.int (bI v)]) :=
  W.zret (v := bI v) hx hb hr (nar_bI v) (fun t ht hW => ⟨⟨bI v, (), rfl, rfl, by show va_P D vwCl Wd t.heap; rw [ht]; exact hP⟩, hS.F ht⟩) hS.2.2 hdg hlocks
theorem en_v {cc : ByteArray} {Wd : va_W} (hx : p.tables.exec = Jvm.exec) (hb : c.code = cc) (hr : meth.sig.returnType = none) (hP : va_P D vwCl Wd H) (hS : va_S A s.heap H locs) (hlocks : meth.locks = false) (hdg : decode cc pc = .ok (.return_, 1)) : W p l e R s m args below meth c H locs 0 0 (MQ below (QV D Wd A) args s 0 0 A) (F0 m pc ls []) :=
  W.vret hx hb hr (fun t ht hW => ⟨⟨(), rfl, trivial, by show va_P D vwCl Wd t.heap; rw [ht]; exact hP⟩, hS.F ht⟩) hS.2.2 hdg hlocks
end CL
end
section

def zb {α : Type} (v : Int32) (k : Bool → Option α) : Option α := if v = 0 then k false else if v = 1 then k true else none
theorem zb_i {α : Type} {v : Int32} {k : Bool → Option α} {y : α} (h : zb v k = some y) : ∃ b, v = bI b ∧ k b = some y := by
  unfold zb at h
  split at h
  · rename_i c
    exact ⟨false, c, h⟩
  · split at h
    · rename_i c
      exact ⟨true, c, h⟩
    · cases h
theorem sm_l {α β γ : Type} {x : α ⊕ β} {f : α → γ} {g : β → γ} {y : γ} (h : sm x f g = y) {a : α} (e : x = .inl a) : f a = y := by subst e; exact h
theorem sm_r {α β γ : Type} {x : α ⊕ β} {f : α → γ} {g : β → γ} {y : γ} (h : sm x f g = y) {a : β} (e : x = .inr a) : g a = y := by subst e; exact h
def cpk (sp dp n : Int32) (n0 n1 : Nat) : Bool := decide (¬ sp < 0) && (decide (¬ dp < 0) && (decide (¬ n < 0) && (decide (sp.toNatClampNeg + n.toNatClampNeg ≤ n0) && decide (dp.toNatClampNeg + n.toNatClampNeg ≤ n1))))
theorem cpk_i {sp dp n : Int32} {n0 n1 : Nat} (h : cpk sp dp n n0 n1 = true) : ¬ sp < 0 ∧ ¬ dp < 0 ∧ ¬ n < 0 ∧ sp.toNatClampNeg + n.toNatClampNeg ≤ n0 ∧ dp.toNatClampNeg + n.toNatClampNeg ≤ n1 := by
  unfold cpk at h
  simp only [Bool.and_eq_true, decide_eq_true_eq] at h
  exact h
def lp1 {A1 X : Type} (F : (A1 → Option X) → A1 → Option X) : Nat → A1 → Option X
  | 0, _ => none
  | n + 1, a1 => F (lp1 F n) a1
theorem lp1_ind {A1 X : Type} {F : (A1 → Option X) → A1 → Option X} {P : A1 → X → Prop} (step : ∀ (rec : A1 → Option X), (∀ (a1 : A1) (x : X), rec a1 = some x → P a1 x) → ∀ (a1 : A1) (x : X), F rec a1 = some x → P a1 x) : ∀ (n : Nat) (a1 : A1) (x : X), lp1 F n a1 = some x → P a1 x := by
  intro n
  induction n with
  | zero => intro a1 x h; cases h
  | succ n ih => intro a1 x h; exact step _ ih a1 x h
def lp2 {A1 A2 X : Type} (F : (A1 → A2 → Option X) → A1 → A2 → Option X) : Nat → A1 → A2 → Option X
  | 0, _, _ => none
  | n + 1, a1, a2 => F (lp2 F n) a1 a2
theorem lp2_ind {A1 A2 X : Type} {F : (A1 → A2 → Option X) → A1 → A2 → Option X} {P : A1 → A2 → X → Prop} (step : ∀ (rec : A1 → A2 → Option X), (∀ (a1 : A1) (a2 : A2) (x : X), rec a1 a2 = some x → P a1 a2 x) → ∀ (a1 : A1) (a2 : A2) (x : X), F rec a1 a2 = some x → P a1 a2 x) : ∀ (n : Nat) (a1 : A1) (a2 : A2) (x : X), lp2 F n a1 a2 = some x → P a1 a2 x := by
  intro n
  induction n with
  | zero => intro a1 a2 x h; cases h
  | succ n ih => intro a1 a2 x h; exact step _ ih a1 a2 x h
def lp3 {A1 A2 A3 X : Type} (F : (A1 → A2 → A3 → Option X) → A1 → A2 → A3 → Option X) : Nat → A1 → A2 → A3 → Option X
  | 0, _, _, _ => none
  | n + 1, a1, a2, a3 => F (lp3 F n) a1 a2 a3
theorem lp3_ind {A1 A2 A3 X : Type} {F : (A1 → A2 → A3 → Option X) → A1 → A2 → A3 → Option X} {P : A1 → A2 → A3 → X → Prop} (step : ∀ (rec : A1 → A2 → A3 → Option X), (∀ (a1 : A1) (a2 : A2) (a3 : A3) (x : X), rec a1 a2 a3 = some x → P a1 a2 a3 x) → ∀ (a1 : A1) (a2 : A2) (a3 : A3) (x : X), F rec a1 a2 a3 = some x → P a1 a2 a3 x) : ∀ (n : Nat) (a1 : A1) (a2 : A2) (a3 : A3) (x : X), lp3 F n a1 a2 a3 = some x → P a1 a2 a3 x := by
  intro n
  induction n with
  | zero => intro a1 a2 a3 x h; cases h
  | succ n ih => intro a1 a2 a3 x h; exact step _ ih a1 a2 a3 x h
def lp4 {A1 A2 A3 A4 X : Type} (F : (A1 → A2 → A3 → A4 → Option X) → A1 → A2 → A3 → A4 → Option X) : Nat → A1 → A2 → A3 → A4 → Option X
  | 0, _, _, _, _ => none
  | n + 1, a1, a2, a3, a4 => F (lp4 F n) a1 a2 a3 a4
theorem lp4_ind {A1 A2 A3 A4 X : Type} {F : (A1 → A2 → A3 → A4 → Option X) → A1 → A2 → A3 → A4 → Option X} {P : A1 → A2 → A3 → A4 → X → Prop} (step : ∀ (rec : A1 → A2 → A3 → A4 → Option X), (∀ (a1 : A1) (a2 : A2) (a3 : A3) (a4 : A4) (x : X), rec a1 a2 a3 a4 = some x → P a1 a2 a3 a4 x) → ∀ (a1 : A1) (a2 : A2) (a3 : A3) (a4 : A4) (x : X), F rec a1 a2 a3 a4 = some x → P a1 a2 a3 a4 x) : ∀ (n : Nat) (a1 : A1) (a2 : A2) (a3 : A3) (a4 : A4) (x : X), lp4 F n a1 a2 a3 a4 = some x → P a1 a2 a3 a4 x := by
  intro n
  induction n with
  | zero => intro a1 a2 a3 a4 x h; cases h
  | succ n ih => intro a1 a2 a3 a4 x h; exact step _ ih a1 a2 a3 a4 x h
def lp5 {A1 A2 A3 A4 A5 X : Type} (F : (A1 → A2 → A3 → A4 → A5 → Option X) → A1 → A2 → A3 → A4 → A5 → Option X) : Nat → A1 → A2 → A3 → A4 → A5 → Option X
  | 0, _, _, _, _, _ => none
  | n + 1, a1, a2, a3, a4, a5 => F (lp5 F n) a1 a2 a3 a4 a5
theorem lp5_ind {A1 A2 A3 A4 A5 X : Type} {F : (A1 → A2 → A3 → A4 → A5 → Option X) → A1 → A2 → A3 → A4 → A5 → Option X} {P : A1 → A2 → A3 → A4 → A5 → X → Prop} (step : ∀ (rec : A1 → A2 → A3 → A4 → A5 → Option X), (∀ (a1 : A1) (a2 : A2) (a3 : A3) (a4 : A4) (a5 : A5) (x : X), rec a1 a2 a3 a4 a5 = some x → P a1 a2 a3 a4 a5 x) → ∀ (a1 : A1) (a2 : A2) (a3 : A3) (a4 : A4) (a5 : A5) (x : X), F rec a1 a2 a3 a4 a5 = some x → P a1 a2 a3 a4 a5 x) : ∀ (n : Nat) (a1 : A1) (a2 : A2) (a3 : A3) (a4 : A4) (a5 : A5) (x : X), lp5 F n a1 a2 a3 a4 a5 = some x → P a1 a2 a3 a4 a5 x := by
  intro n
  induction n with
  | zero => intro a1 a2 a3 a4 a5 x h; cases h
  | succ n ih => intro a1 a2 a3 a4 a5 x h; exact step _ ih a1 a2 a3 a4 a5 x h
def lp6 {A1 A2 A3 A4 A5 A6 X : Type} (F : (A1 → A2 → A3 → A4 → A5 → A6 → Option X) → A1 → A2 → A3 → A4 → A5 → A6 → Option X) : Nat → A1 → A2 → A3 → A4 → A5 → A6 → Option X
  | 0, _, _, _, _, _, _ => none
  | n + 1, a1, a2, a3, a4, a5, a6 => F (lp6 F n) a1 a2 a3 a4 a5 a6
theorem lp6_ind {A1 A2 A3 A4 A5 A6 X : Type} {F : (A1 → A2 → A3 → A4 → A5 → A6 → Option X) → A1 → A2 → A3 → A4 → A5 → A6 → Option X} {P : A1 → A2 → A3 → A4 → A5 → A6 → X → Prop} (step : ∀ (rec : A1 → A2 → A3 → A4 → A5 → A6 → Option X), (∀ (a1 : A1) (a2 : A2) (a3 : A3) (a4 : A4) (a5 : A5) (a6 : A6) (x : X), rec a1 a2 a3 a4 a5 a6 = some x → P a1 a2 a3 a4 a5 a6 x) → ∀ (a1 : A1) (a2 : A2) (a3 : A3) (a4 : A4) (a5 : A5) (a6 : A6) (x : X), F rec a1 a2 a3 a4 a5 a6 = some x → P a1 a2 a3 a4 a5 a6 x) : ∀ (n : Nat) (a1 : A1) (a2 : A2) (a3 : A3) (a4 : A4) (a5 : A5) (a6 : A6) (x : X), lp6 F n a1 a2 a3 a4 a5 a6 = some x → P a1 a2 a3 a4 a5 a6 x := by
  intro n
  induction n with
  | zero => intro a1 a2 a3 a4 a5 a6 x h; cases h
  | succ n ih => intro a1 a2 a3 a4 a5 a6 x h; exact step _ ih a1 a2 a3 a4 a5 a6 x h
def lp7 {A1 A2 A3 A4 A5 A6 A7 X : Type} (F : (A1 → A2 → A3 → A4 → A5 → A6 → A7 → Option X) → A1 → A2 → A3 → A4 → A5 → A6 → A7 → Option X) : Nat → A1 → A2 → A3 → A4 → A5 → A6 → A7 → Option X
  | 0, _, _, _, _, _, _, _ => none
  | n + 1, a1, a2, a3, a4, a5, a6, a7 => F (lp7 F n) a1 a2 a3 a4 a5 a6 a7
theorem lp7_ind {A1 A2 A3 A4 A5 A6 A7 X : Type} {F : (A1 → A2 → A3 → A4 → A5 → A6 → A7 → Option X) → A1 → A2 → A3 → A4 → A5 → A6 → A7 → Option X} {P : A1 → A2 → A3 → A4 → A5 → A6 → A7 → X → Prop} (step : ∀ (rec : A1 → A2 → A3 → A4 → A5 → A6 → A7 → Option X), (∀ (a1 : A1) (a2 : A2) (a3 : A3) (a4 : A4) (a5 : A5) (a6 : A6) (a7 : A7) (x : X), rec a1 a2 a3 a4 a5 a6 a7 = some x → P a1 a2 a3 a4 a5 a6 a7 x) → ∀ (a1 : A1) (a2 : A2) (a3 : A3) (a4 : A4) (a5 : A5) (a6 : A6) (a7 : A7) (x : X), F rec a1 a2 a3 a4 a5 a6 a7 = some x → P a1 a2 a3 a4 a5 a6 a7 x) : ∀ (n : Nat) (a1 : A1) (a2 : A2) (a3 : A3) (a4 : A4) (a5 : A5) (a6 : A6) (a7 : A7) (x : X), lp7 F n a1 a2 a3 a4 a5 a6 a7 = some x → P a1 a2 a3 a4 a5 a6 a7 x := by
  intro n
  induction n with
  | zero => intro a1 a2 a3 a4 a5 a6 a7 x h; cases h
  | succ n ih => intro a1 a2 a3 a4 a5 a6 a7 x h; exact step _ ih a1 a2 a3 a4 a5 a6 a7 x h
def lp8 {A1 A2 A3 A4 A5 A6 A7 A8 X : Type} (F : (A1 → A2 → A3 → A4 → A5 → A6 → A7 → A8 → Option X) → A1 → A2 → A3 → A4 → A5 → A6 → A7 → A8 → Option X) : Nat → A1 → A2 → A3 → A4 → A5 → A6 → A7 → A8 → Option X
  | 0, _, _, _, _, _, _, _, _ => none
  | n + 1, a1, a2, a3, a4, a5, a6, a7, a8 => F (lp8 F n) a1 a2 a3 a4 a5 a6 a7 a8
theorem lp8_ind {A1 A2 A3 A4 A5 A6 A7 A8 X : Type} {F : (A1 → A2 → A3 → A4 → A5 → A6 → A7 → A8 → Option X) → A1 → A2 → A3 → A4 → A5 → A6 → A7 → A8 → Option X} {P : A1 → A2 → A3 → A4 → A5 → A6 → A7 → A8 → X → Prop} (step : ∀ (rec : A1 → A2 → A3 → A4 → A5 → A6 → A7 → A8 → Option X), (∀ (a1 : A1) (a2 : A2) (a3 : A3) (a4 : A4) (a5 : A5) (a6 : A6) (a7 : A7) (a8 : A8) (x : X), rec a1 a2 a3 a4 a5 a6 a7 a8 = some x → P a1 a2 a3 a4 a5 a6 a7 a8 x) → ∀ (a1 : A1) (a2 : A2) (a3 : A3) (a4 : A4) (a5 : A5) (a6 : A6) (a7 : A7) (a8 : A8) (x : X), F rec a1 a2 a3 a4 a5 a6 a7 a8 = some x → P a1 a2 a3 a4 a5 a6 a7 a8 x) : ∀ (n : Nat) (a1 : A1) (a2 : A2) (a3 : A3) (a4 : A4) (a5 : A5) (a6 : A6) (a7 : A7) (a8 : A8) (x : X), lp8 F n a1 a2 a3 a4 a5 a6 a7 a8 = some x → P a1 a2 a3 a4 a5 a6 a7 a8 x := by
  intro n
  induction n with
  | zero => intro a1 a2 a3 a4 a5 a6 a7 a8 x h; cases h
  | succ n ih => intro a1 a2 a3 a4 a5 a6 a7 a8 x h; exact step _ ih a1 a2 a3 a4 a5 a6 a7 a8 x h
def lp9 {A1 A2 A3 A4 A5 A6 A7 A8 A9 X : Type} (F : (A1 → A2 → A3 → A4 → A5 → A6 → A7 → A8 → A9 → Option X) → A1 → A2 → A3 → A4 → A5 → A6 → A7 → A8 → A9 → Option X) : Nat → A1 → A2 → A3 → A4 → A5 → A6 → A7 → A8 → A9 → Option X
  | 0, _, _, _, _, _, _, _, _, _ => none
  | n + 1, a1, a2, a3, a4, a5, a6, a7, a8, a9 => F (lp9 F n) a1 a2 a3 a4 a5 a6 a7 a8 a9
theorem lp9_ind {A1 A2 A3 A4 A5 A6 A7 A8 A9 X : Type} {F : (A1 → A2 → A3 → A4 → A5 → A6 → A7 → A8 → A9 → Option X) → A1 → A2 → A3 → A4 → A5 → A6 → A7 → A8 → A9 → Option X} {P : A1 → A2 → A3 → A4 → A5 → A6 → A7 → A8 → A9 → X → Prop} (step : ∀ (rec : A1 → A2 → A3 → A4 → A5 → A6 → A7 → A8 → A9 → Option X), (∀ (a1 : A1) (a2 : A2) (a3 : A3) (a4 : A4) (a5 : A5) (a6 : A6) (a7 : A7) (a8 : A8) (a9 : A9) (x : X), rec a1 a2 a3 a4 a5 a6 a7 a8 a9 = some x → P a1 a2 a3 a4 a5 a6 a7 a8 a9 x) → ∀ (a1 : A1) (a2 : A2) (a3 : A3) (a4 : A4) (a5 : A5) (a6 : A6) (a7 : A7) (a8 : A8) (a9 : A9) (x : X), F rec a1 a2 a3 a4 a5 a6 a7 a8 a9 = some x → P a1 a2 a3 a4 a5 a6 a7 a8 a9 x) : ∀ (n : Nat) (a1 : A1) (a2 : A2) (a3 : A3) (a4 : A4) (a5 : A5) (a6 : A6) (a7 : A7) (a8 : A8) (a9 : A9) (x : X), lp9 F n a1 a2 a3 a4 a5 a6 a7 a8 a9 = some x → P a1 a2 a3 a4 a5 a6 a7 a8 a9 x := by
  intro n
  induction n with
  | zero => intro a1 a2 a3 a4 a5 a6 a7 a8 a9 x h; cases h
  | succ n ih => intro a1 a2 a3 a4 a5 a6 a7 a8 a9 x h; exact step _ ih a1 a2 a3 a4 a5 a6 a7 a8 a9 x h
def lp10 {A1 A2 A3 A4 A5 A6 A7 A8 A9 A10 X : Type} (F : (A1 → A2 → A3 → A4 → A5 → A6 → A7 → A8 → A9 → A10 → Option X) → A1 → A2 → A3 → A4 → A5 → A6 → A7 → A8 → A9 → A10 → Option X) : Nat → A1 → A2 → A3 → A4 → A5 → A6 → A7 → A8 → A9 → A10 → Option X
  | 0, _, _, _, _, _, _, _, _, _, _ => none
  | n + 1, a1, a2, a3, a4, a5, a6, a7, a8, a9, a10 => F (lp10 F n) a1 a2 a3 a4 a5 a6 a7 a8 a9 a10
theorem lp10_ind {A1 A2 A3 A4 A5 A6 A7 A8 A9 A10 X : Type} {F : (A1 → A2 → A3 → A4 → A5 → A6 → A7 → A8 → A9 → A10 → Option X) → A1 → A2 → A3 → A4 → A5 → A6 → A7 → A8 → A9 → A10 → Option X} {P : A1 → A2 → A3 → A4 → A5 → A6 → A7 → A8 → A9 → A10 → X → Prop} (step : ∀ (rec : A1 → A2 → A3 → A4 → A5 → A6 → A7 → A8 → A9 → A10 → Option X), (∀ (a1 : A1) (a2 : A2) (a3 : A3) (a4 : A4) (a5 : A5) (a6 : A6) (a7 : A7) (a8 : A8) (a9 : A9) (a10 : A10) (x : X), rec a1 a2 a3 a4 a5 a6 a7 a8 a9 a10 = some x → P a1 a2 a3 a4 a5 a6 a7 a8 a9 a10 x) → ∀ (a1 : A1) (a2 : A2) (a3 : A3) (a4 : A4) (a5 : A5) (a6 : A6) (a7 : A7) (a8 : A8) (a9 : A9) (a10 : A10) (x : X), F rec a1 a2 a3 a4 a5 a6 a7 a8 a9 a10 = some x → P a1 a2 a3 a4 a5 a6 a7 a8 a9 a10 x) : ∀ (n : Nat) (a1 : A1) (a2 : A2) (a3 : A3) (a4 : A4) (a5 : A5) (a6 : A6) (a7 : A7) (a8 : A8) (a9 : A9) (a10 : A10) (x : X), lp10 F n a1 a2 a3 a4 a5 a6 a7 a8 a9 a10 = some x → P a1 a2 a3 a4 a5 a6 a7 a8 a9 a10 x := by
  intro n
  induction n with
  | zero => intro a1 a2 a3 a4 a5 a6 a7 a8 a9 a10 x h; cases h
  | succ n ih => intro a1 a2 a3 a4 a5 a6 a7 a8 a9 a10 x h; exact step _ ih a1 a2 a3 a4 a5 a6 a7 a8 a9 a10 x h
abbrev TS : Type := Int32 × Int32 × (Nat → Int32) × (Nat → Int32) × (Nat → Int32) × (Nat → Int32) × (Nat → Int32) × (Nat → Int32) × (Nat → Int32)
def S_sl (u : TS) : Int32 := u.1
def S_jb (u : TS) : Int32 := u.2.1
def S_nu (u : TS) : (Nat → Int32) := u.2.2.1
def S_lv (u : TS) : (Nat → Int32) := u.2.2.2.1
def S_fo (u : TS) : (Nat → Int32) := u.2.2.2.2.1
def S_se (u : TS) : (Nat → Int32) := u.2.2.2.2.2.1
def S_li (u : TS) : (Nat → Int32) := u.2.2.2.2.2.2.1
def S_jr (u : TS) : (Nat → Int32) := u.2.2.2.2.2.2.2.1
def S_ac (u : TS) : (Nat → Int32) := u.2.2.2.2.2.2.2.2
def S_sl_ (u : TS) (x : Int32) : TS := (x, u.2.1, u.2.2.1, u.2.2.2.1, u.2.2.2.2.1, u.2.2.2.2.2.1, u.2.2.2.2.2.2.1, u.2.2.2.2.2.2.2.1, u.2.2.2.2.2.2.2.2)
def S_jb_ (u : TS) (x : Int32) : TS := (u.1, x, u.2.2.1, u.2.2.2.1, u.2.2.2.2.1, u.2.2.2.2.2.1, u.2.2.2.2.2.2.1, u.2.2.2.2.2.2.2.1, u.2.2.2.2.2.2.2.2)
def S_nu_ (u : TS) (x : (Nat → Int32)) : TS := (u.1, u.2.1, x, u.2.2.2.1, u.2.2.2.2.1, u.2.2.2.2.2.1, u.2.2.2.2.2.2.1, u.2.2.2.2.2.2.2.1, u.2.2.2.2.2.2.2.2)
def S_lv_ (u : TS) (x : (Nat → Int32)) : TS := (u.1, u.2.1, u.2.2.1, x, u.2.2.2.2.1, u.2.2.2.2.2.1, u.2.2.2.2.2.2.1, u.2.2.2.2.2.2.2.1, u.2.2.2.2.2.2.2.2)
def S_fo_ (u : TS) (x : (Nat → Int32)) : TS := (u.1, u.2.1, u.2.2.1, u.2.2.2.1, x, u.2.2.2.2.2.1, u.2.2.2.2.2.2.1, u.2.2.2.2.2.2.2.1, u.2.2.2.2.2.2.2.2)
def S_se_ (u : TS) (x : (Nat → Int32)) : TS := (u.1, u.2.1, u.2.2.1, u.2.2.2.1, u.2.2.2.2.1, x, u.2.2.2.2.2.2.1, u.2.2.2.2.2.2.2.1, u.2.2.2.2.2.2.2.2)
def S_li_ (u : TS) (x : (Nat → Int32)) : TS := (u.1, u.2.1, u.2.2.1, u.2.2.2.1, u.2.2.2.2.1, u.2.2.2.2.2.1, x, u.2.2.2.2.2.2.2.1, u.2.2.2.2.2.2.2.2)
def S_jr_ (u : TS) (x : (Nat → Int32)) : TS := (u.1, u.2.1, u.2.2.1, u.2.2.2.1, u.2.2.2.2.1, u.2.2.2.2.2.1, u.2.2.2.2.2.2.1, x, u.2.2.2.2.2.2.2.2)
def S_ac_ (u : TS) (x : (Nat → Int32)) : TS := (u.1, u.2.1, u.2.2.1, u.2.2.2.1, u.2.2.2.2.1, u.2.2.2.2.2.1, u.2.2.2.2.2.2.1, u.2.2.2.2.2.2.2.1, x)
theorem S_sl_sl (u : TS) (x : Int32) : S_sl (S_sl_ u x) = x := rfl
theorem S_sl_jb (u : TS) (x : Int32) : S_jb (S_sl_ u x) = S_jb u := rfl
theorem S_sl_nu (u : TS) (x : Int32) : S_nu (S_sl_ u x) = S_nu u := rfl
theorem S_sl_lv (u : TS) (x : Int32) : S_lv (S_sl_ u x) = S_lv u := rfl
theorem S_sl_fo (u : TS) (x : Int32) : S_fo (S_sl_ u x) = S_fo u := rfl
theorem S_sl_se (u : TS) (x : Int32) : S_se (S_sl_ u x) = S_se u := rfl
theorem S_sl_li (u : TS) (x : Int32) : S_li (S_sl_ u x) = S_li u := rfl
theorem S_sl_jr (u : TS) (x : Int32) : S_jr (S_sl_ u x) = S_jr u := rfl
theorem S_sl_ac (u : TS) (x : Int32) : S_ac (S_sl_ u x) = S_ac u := rfl
theorem S_jb_sl (u : TS) (x : Int32) : S_sl (S_jb_ u x) = S_sl u := rfl
theorem S_jb_jb (u : TS) (x : Int32) : S_jb (S_jb_ u x) = x := rfl
theorem S_jb_nu (u : TS) (x : Int32) : S_nu (S_jb_ u x) = S_nu u := rfl
theorem S_jb_lv (u : TS) (x : Int32) : S_lv (S_jb_ u x) = S_lv u := rfl
theorem S_jb_fo (u : TS) (x : Int32) : S_fo (S_jb_ u x) = S_fo u := rfl
theorem S_jb_se (u : TS) (x : Int32) : S_se (S_jb_ u x) = S_se u := rfl
theorem S_jb_li (u : TS) (x : Int32) : S_li (S_jb_ u x) = S_li u := rfl
theorem S_jb_jr (u : TS) (x : Int32) : S_jr (S_jb_ u x) = S_jr u := rfl
theorem S_jb_ac (u : TS) (x : Int32) : S_ac (S_jb_ u x) = S_ac u := rfl
theorem S_nu_sl (u : TS) (x : (Nat → Int32)) : S_sl (S_nu_ u x) = S_sl u := rfl
theorem S_nu_jb (u : TS) (x : (Nat → Int32)) : S_jb (S_nu_ u x) = S_jb u := rfl
theorem S_nu_nu (u : TS) (x : (Nat → Int32)) : S_nu (S_nu_ u x) = x := rfl
theorem S_nu_lv (u : TS) (x : (Nat → Int32)) : S_lv (S_nu_ u x) = S_lv u := rfl
theorem S_nu_fo (u : TS) (x : (Nat → Int32)) : S_fo (S_nu_ u x) = S_fo u := rfl
theorem S_nu_se (u : TS) (x : (Nat → Int32)) : S_se (S_nu_ u x) = S_se u := rfl
theorem S_nu_li (u : TS) (x : (Nat → Int32)) : S_li (S_nu_ u x) = S_li u := rfl
theorem S_nu_jr (u : TS) (x : (Nat → Int32)) : S_jr (S_nu_ u x) = S_jr u := rfl
theorem S_nu_ac (u : TS) (x : (Nat → Int32)) : S_ac (S_nu_ u x) = S_ac u := rfl
theorem S_lv_sl (u : TS) (x : (Nat → Int32)) : S_sl (S_lv_ u x) = S_sl u := rfl
theorem S_lv_jb (u : TS) (x : (Nat → Int32)) : S_jb (S_lv_ u x) = S_jb u := rfl
theorem S_lv_nu (u : TS) (x : (Nat → Int32)) : S_nu (S_lv_ u x) = S_nu u := rfl
theorem S_lv_lv (u : TS) (x : (Nat → Int32)) : S_lv (S_lv_ u x) = x := rfl
theorem S_lv_fo (u : TS) (x : (Nat → Int32)) : S_fo (S_lv_ u x) = S_fo u := rfl
theorem S_lv_se (u : TS) (x : (Nat → Int32)) : S_se (S_lv_ u x) = S_se u := rfl
theorem S_lv_li (u : TS) (x : (Nat → Int32)) : S_li (S_lv_ u x) = S_li u := rfl
theorem S_lv_jr (u : TS) (x : (Nat → Int32)) : S_jr (S_lv_ u x) = S_jr u := rfl
theorem S_lv_ac (u : TS) (x : (Nat → Int32)) : S_ac (S_lv_ u x) = S_ac u := rfl
theorem S_fo_sl (u : TS) (x : (Nat → Int32)) : S_sl (S_fo_ u x) = S_sl u := rfl
theorem S_fo_jb (u : TS) (x : (Nat → Int32)) : S_jb (S_fo_ u x) = S_jb u := rfl
theorem S_fo_nu (u : TS) (x : (Nat → Int32)) : S_nu (S_fo_ u x) = S_nu u := rfl
theorem S_fo_lv (u : TS) (x : (Nat → Int32)) : S_lv (S_fo_ u x) = S_lv u := rfl
theorem S_fo_fo (u : TS) (x : (Nat → Int32)) : S_fo (S_fo_ u x) = x := rfl
theorem S_fo_se (u : TS) (x : (Nat → Int32)) : S_se (S_fo_ u x) = S_se u := rfl
theorem S_fo_li (u : TS) (x : (Nat → Int32)) : S_li (S_fo_ u x) = S_li u := rfl
theorem S_fo_jr (u : TS) (x : (Nat → Int32)) : S_jr (S_fo_ u x) = S_jr u := rfl
theorem S_fo_ac (u : TS) (x : (Nat → Int32)) : S_ac (S_fo_ u x) = S_ac u := rfl
theorem S_se_sl (u : TS) (x : (Nat → Int32)) : S_sl (S_se_ u x) = S_sl u := rfl
theorem S_se_jb (u : TS) (x : (Nat → Int32)) : S_jb (S_se_ u x) = S_jb u := rfl
theorem S_se_nu (u : TS) (x : (Nat → Int32)) : S_nu (S_se_ u x) = S_nu u := rfl
theorem S_se_lv (u : TS) (x : (Nat → Int32)) : S_lv (S_se_ u x) = S_lv u := rfl
theorem S_se_fo (u : TS) (x : (Nat → Int32)) : S_fo (S_se_ u x) = S_fo u := rfl
theorem S_se_se (u : TS) (x : (Nat → Int32)) : S_se (S_se_ u x) = x := rfl
theorem S_se_li (u : TS) (x : (Nat → Int32)) : S_li (S_se_ u x) = S_li u := rfl
theorem S_se_jr (u : TS) (x : (Nat → Int32)) : S_jr (S_se_ u x) = S_jr u := rfl
theorem S_se_ac (u : TS) (x : (Nat → Int32)) : S_ac (S_se_ u x) = S_ac u := rfl
theorem S_li_sl (u : TS) (x : (Nat → Int32)) : S_sl (S_li_ u x) = S_sl u := rfl
theorem S_li_jb (u : TS) (x : (Nat → Int32)) : S_jb (S_li_ u x) = S_jb u := rfl
theorem S_li_nu (u : TS) (x : (Nat → Int32)) : S_nu (S_li_ u x) = S_nu u := rfl
theorem S_li_lv (u : TS) (x : (Nat → Int32)) : S_lv (S_li_ u x) = S_lv u := rfl
theorem S_li_fo (u : TS) (x : (Nat → Int32)) : S_fo (S_li_ u x) = S_fo u := rfl
theorem S_li_se (u : TS) (x : (Nat → Int32)) : S_se (S_li_ u x) = S_se u := rfl
theorem S_li_li (u : TS) (x : (Nat → Int32)) : S_li (S_li_ u x) = x := rfl
theorem S_li_jr (u : TS) (x : (Nat → Int32)) : S_jr (S_li_ u x) = S_jr u := rfl
theorem S_li_ac (u : TS) (x : (Nat → Int32)) : S_ac (S_li_ u x) = S_ac u := rfl
theorem S_jr_sl (u : TS) (x : (Nat → Int32)) : S_sl (S_jr_ u x) = S_sl u := rfl
theorem S_jr_jb (u : TS) (x : (Nat → Int32)) : S_jb (S_jr_ u x) = S_jb u := rfl
theorem S_jr_nu (u : TS) (x : (Nat → Int32)) : S_nu (S_jr_ u x) = S_nu u := rfl
theorem S_jr_lv (u : TS) (x : (Nat → Int32)) : S_lv (S_jr_ u x) = S_lv u := rfl
theorem S_jr_fo (u : TS) (x : (Nat → Int32)) : S_fo (S_jr_ u x) = S_fo u := rfl
theorem S_jr_se (u : TS) (x : (Nat → Int32)) : S_se (S_jr_ u x) = S_se u := rfl
theorem S_jr_li (u : TS) (x : (Nat → Int32)) : S_li (S_jr_ u x) = S_li u := rfl
theorem S_jr_jr (u : TS) (x : (Nat → Int32)) : S_jr (S_jr_ u x) = x := rfl
theorem S_jr_ac (u : TS) (x : (Nat → Int32)) : S_ac (S_jr_ u x) = S_ac u := rfl
theorem S_ac_sl (u : TS) (x : (Nat → Int32)) : S_sl (S_ac_ u x) = S_sl u := rfl
theorem S_ac_jb (u : TS) (x : (Nat → Int32)) : S_jb (S_ac_ u x) = S_jb u := rfl
theorem S_ac_nu (u : TS) (x : (Nat → Int32)) : S_nu (S_ac_ u x) = S_nu u := rfl
theorem S_ac_lv (u : TS) (x : (Nat → Int32)) : S_lv (S_ac_ u x) = S_lv u := rfl
theorem S_ac_fo (u : TS) (x : (Nat → Int32)) : S_fo (S_ac_ u x) = S_fo u := rfl
theorem S_ac_se (u : TS) (x : (Nat → Int32)) : S_se (S_ac_ u x) = S_se u := rfl
theorem S_ac_li (u : TS) (x : (Nat → Int32)) : S_li (S_ac_ u x) = S_li u := rfl
theorem S_ac_jr (u : TS) (x : (Nat → Int32)) : S_jr (S_ac_ u x) = S_jr u := rfl
theorem S_ac_ac (u : TS) (x : (Nat → Int32)) : S_ac (S_ac_ u x) = x := rfl
def wS (cT : Nat → ClassId) (g : Nat → Nat) (b : Nat) (u : TS) : va_W := [(g b, .inr (1, [.int (S_sl u), .int (S_jb u), .ref (g (b + 1)), .ref (g (b + 2)), .ref (g (b + 3)), .ref (g (b + 4)), .ref (g (b + 5)), .ref (g (b + 6)), .ref (g (b + 7))])), (g (b + 1), .inl (cT 0, 8, .inl (S_nu u))), (g (b + 2), .inl (cT 0, 60, .inl (S_lv u))), (g (b + 3), .inl (cT 0, 60, .inl (S_fo u))), (g (b + 4), .inl (cT 0, 60, .inl (S_se u))), (g (b + 5), .inl (cT 0, 60, .inl (S_li u))), (g (b + 6), .inl (cT 0, 24, .inl (S_jr u))), (g (b + 7), .inl (cT 0, 7, .inl (S_ac u)))]
abbrev TV : Type := (Nat → Int32) × (Nat → Int32) × (Nat → Int32) × Int32 × Int32 × Int32 × Int32
def V_he (u : TV) : (Nat → Int32) := u.1
def V_lo (u : TV) : (Nat → Int32) := u.2.1
def V_ha (u : TV) : (Nat → Int32) := u.2.2.1
def V_hc (u : TV) : Int32 := u.2.2.2.1
def V_wo (u : TV) : Int32 := u.2.2.2.2.1
def V_ws (u : TV) : Int32 := u.2.2.2.2.2.1
def V_od (u : TV) : Int32 := u.2.2.2.2.2.2
def V_he_ (u : TV) (x : (Nat → Int32)) : TV := (x, u.2.1, u.2.2.1, u.2.2.2.1, u.2.2.2.2.1, u.2.2.2.2.2.1, u.2.2.2.2.2.2)
def V_lo_ (u : TV) (x : (Nat → Int32)) : TV := (u.1, x, u.2.2.1, u.2.2.2.1, u.2.2.2.2.1, u.2.2.2.2.2.1, u.2.2.2.2.2.2)
def V_ha_ (u : TV) (x : (Nat → Int32)) : TV := (u.1, u.2.1, x, u.2.2.2.1, u.2.2.2.2.1, u.2.2.2.2.2.1, u.2.2.2.2.2.2)
def V_hc_ (u : TV) (x : Int32) : TV := (u.1, u.2.1, u.2.2.1, x, u.2.2.2.2.1, u.2.2.2.2.2.1, u.2.2.2.2.2.2)
def V_wo_ (u : TV) (x : Int32) : TV := (u.1, u.2.1, u.2.2.1, u.2.2.2.1, x, u.2.2.2.2.2.1, u.2.2.2.2.2.2)
def V_ws_ (u : TV) (x : Int32) : TV := (u.1, u.2.1, u.2.2.1, u.2.2.2.1, u.2.2.2.2.1, x, u.2.2.2.2.2.2)
def V_od_ (u : TV) (x : Int32) : TV := (u.1, u.2.1, u.2.2.1, u.2.2.2.1, u.2.2.2.2.1, u.2.2.2.2.2.1, x)
theorem V_he_he (u : TV) (x : (Nat → Int32)) : V_he (V_he_ u x) = x := rfl
theorem V_he_lo (u : TV) (x : (Nat → Int32)) : V_lo (V_he_ u x) = V_lo u := rfl
theorem V_he_ha (u : TV) (x : (Nat → Int32)) : V_ha (V_he_ u x) = V_ha u := rfl
theorem V_he_hc (u : TV) (x : (Nat → Int32)) : V_hc (V_he_ u x) = V_hc u := rfl
theorem V_he_wo (u : TV) (x : (Nat → Int32)) : V_wo (V_he_ u x) = V_wo u := rfl
theorem V_he_ws (u : TV) (x : (Nat → Int32)) : V_ws (V_he_ u x) = V_ws u := rfl
theorem V_he_od (u : TV) (x : (Nat → Int32)) : V_od (V_he_ u x) = V_od u := rfl
theorem V_lo_he (u : TV) (x : (Nat → Int32)) : V_he (V_lo_ u x) = V_he u := rfl
theorem V_lo_lo (u : TV) (x : (Nat → Int32)) : V_lo (V_lo_ u x) = x := rfl
theorem V_lo_ha (u : TV) (x : (Nat → Int32)) : V_ha (V_lo_ u x) = V_ha u := rfl
theorem V_lo_hc (u : TV) (x : (Nat → Int32)) : V_hc (V_lo_ u x) = V_hc u := rfl
theorem V_lo_wo (u : TV) (x : (Nat → Int32)) : V_wo (V_lo_ u x) = V_wo u := rfl
theorem V_lo_ws (u : TV) (x : (Nat → Int32)) : V_ws (V_lo_ u x) = V_ws u := rfl
theorem V_lo_od (u : TV) (x : (Nat → Int32)) : V_od (V_lo_ u x) = V_od u := rfl
theorem V_ha_he (u : TV) (x : (Nat → Int32)) : V_he (V_ha_ u x) = V_he u := rfl
theorem V_ha_lo (u : TV) (x : (Nat → Int32)) : V_lo (V_ha_ u x) = V_lo u := rfl
theorem V_ha_ha (u : TV) (x : (Nat → Int32)) : V_ha (V_ha_ u x) = x := rfl
theorem V_ha_hc (u : TV) (x : (Nat → Int32)) : V_hc (V_ha_ u x) = V_hc u := rfl
theorem V_ha_wo (u : TV) (x : (Nat → Int32)) : V_wo (V_ha_ u x) = V_wo u := rfl
theorem V_ha_ws (u : TV) (x : (Nat → Int32)) : V_ws (V_ha_ u x) = V_ws u := rfl
theorem V_ha_od (u : TV) (x : (Nat → Int32)) : V_od (V_ha_ u x) = V_od u := rfl
theorem V_hc_he (u : TV) (x : Int32) : V_he (V_hc_ u x) = V_he u := rfl
theorem V_hc_lo (u : TV) (x : Int32) : V_lo (V_hc_ u x) = V_lo u := rfl
theorem V_hc_ha (u : TV) (x : Int32) : V_ha (V_hc_ u x) = V_ha u := rfl
theorem V_hc_hc (u : TV) (x : Int32) : V_hc (V_hc_ u x) = x := rfl
theorem V_hc_wo (u : TV) (x : Int32) : V_wo (V_hc_ u x) = V_wo u := rfl
theorem V_hc_ws (u : TV) (x : Int32) : V_ws (V_hc_ u x) = V_ws u := rfl
theorem V_hc_od (u : TV) (x : Int32) : V_od (V_hc_ u x) = V_od u := rfl
theorem V_wo_he (u : TV) (x : Int32) : V_he (V_wo_ u x) = V_he u := rfl
theorem V_wo_lo (u : TV) (x : Int32) : V_lo (V_wo_ u x) = V_lo u := rfl
theorem V_wo_ha (u : TV) (x : Int32) : V_ha (V_wo_ u x) = V_ha u := rfl
theorem V_wo_hc (u : TV) (x : Int32) : V_hc (V_wo_ u x) = V_hc u := rfl
theorem V_wo_wo (u : TV) (x : Int32) : V_wo (V_wo_ u x) = x := rfl
theorem V_wo_ws (u : TV) (x : Int32) : V_ws (V_wo_ u x) = V_ws u := rfl
theorem V_wo_od (u : TV) (x : Int32) : V_od (V_wo_ u x) = V_od u := rfl
theorem V_ws_he (u : TV) (x : Int32) : V_he (V_ws_ u x) = V_he u := rfl
theorem V_ws_lo (u : TV) (x : Int32) : V_lo (V_ws_ u x) = V_lo u := rfl
theorem V_ws_ha (u : TV) (x : Int32) : V_ha (V_ws_ u x) = V_ha u := rfl
theorem V_ws_hc (u : TV) (x : Int32) : V_hc (V_ws_ u x) = V_hc u := rfl
theorem V_ws_wo (u : TV) (x : Int32) : V_wo (V_ws_ u x) = V_wo u := rfl
theorem V_ws_ws (u : TV) (x : Int32) : V_ws (V_ws_ u x) = x := rfl
theorem V_ws_od (u : TV) (x : Int32) : V_od (V_ws_ u x) = V_od u := rfl
theorem V_od_he (u : TV) (x : Int32) : V_he (V_od_ u x) = V_he u := rfl
theorem V_od_lo (u : TV) (x : Int32) : V_lo (V_od_ u x) = V_lo u := rfl
theorem V_od_ha (u : TV) (x : Int32) : V_ha (V_od_ u x) = V_ha u := rfl
theorem V_od_hc (u : TV) (x : Int32) : V_hc (V_od_ u x) = V_hc u := rfl
theorem V_od_wo (u : TV) (x : Int32) : V_wo (V_od_ u x) = V_wo u := rfl
theorem V_od_ws (u : TV) (x : Int32) : V_ws (V_od_ u x) = V_ws u := rfl
theorem V_od_od (u : TV) (x : Int32) : V_od (V_od_ u x) = x := rfl
def wV (cT : Nat → ClassId) (g : Nat → Nat) (b : Nat) (t : Nat) (u : TV) : va_W := [(g b, .inr (2, [.ref (g t), .ref (g (b + 1)), .ref (g (b + 2)), .ref (g (b + 3)), .int (V_hc u), .int (V_wo u), .int (V_ws u), .int (V_od u)])), (g (b + 1), .inl (cT 0, 60, .inl (V_he u))), (g (b + 2), .inl (cT 0, 60, .inl (V_lo u))), (g (b + 3), .inl (cT 1, 60, .inl (V_ha u)))]
abbrev TX : Type := (Nat → Int32) × Int32 × Int32 × Int32
def X_ch (u : TX) : (Nat → Int32) := u.1
def X_ln (u : TX) : Int32 := u.2.1
def X_ep (u : TX) : Int32 := u.2.2.1
def X_po (u : TX) : Int32 := u.2.2.2
def X_ch_ (u : TX) (x : (Nat → Int32)) : TX := (x, u.2.1, u.2.2.1, u.2.2.2)
def X_ln_ (u : TX) (x : Int32) : TX := (u.1, x, u.2.2.1, u.2.2.2)
def X_ep_ (u : TX) (x : Int32) : TX := (u.1, u.2.1, x, u.2.2.2)
def X_po_ (u : TX) (x : Int32) : TX := (u.1, u.2.1, u.2.2.1, x)
theorem X_ch_ch (u : TX) (x : (Nat → Int32)) : X_ch (X_ch_ u x) = x := rfl
theorem X_ch_ln (u : TX) (x : (Nat → Int32)) : X_ln (X_ch_ u x) = X_ln u := rfl
theorem X_ch_ep (u : TX) (x : (Nat → Int32)) : X_ep (X_ch_ u x) = X_ep u := rfl
theorem X_ch_po (u : TX) (x : (Nat → Int32)) : X_po (X_ch_ u x) = X_po u := rfl
theorem X_ln_ch (u : TX) (x : Int32) : X_ch (X_ln_ u x) = X_ch u := rfl
theorem X_ln_ln (u : TX) (x : Int32) : X_ln (X_ln_ u x) = x := rfl
theorem X_ln_ep (u : TX) (x : Int32) : X_ep (X_ln_ u x) = X_ep u := rfl
theorem X_ln_po (u : TX) (x : Int32) : X_po (X_ln_ u x) = X_po u := rfl
theorem X_ep_ch (u : TX) (x : Int32) : X_ch (X_ep_ u x) = X_ch u := rfl
theorem X_ep_ln (u : TX) (x : Int32) : X_ln (X_ep_ u x) = X_ln u := rfl
theorem X_ep_ep (u : TX) (x : Int32) : X_ep (X_ep_ u x) = x := rfl
theorem X_ep_po (u : TX) (x : Int32) : X_po (X_ep_ u x) = X_po u := rfl
theorem X_po_ch (u : TX) (x : Int32) : X_ch (X_po_ u x) = X_ch u := rfl
theorem X_po_ln (u : TX) (x : Int32) : X_ln (X_po_ u x) = X_ln u := rfl
theorem X_po_ep (u : TX) (x : Int32) : X_ep (X_po_ u x) = X_ep u := rfl
theorem X_po_po (u : TX) (x : Int32) : X_po (X_po_ u x) = x := rfl
def wX (cT : Nat → ClassId) (g : Nat → Nat) (b : Nat) (u : TX) : va_W := [(g b, .inr (3, [.ref (g (b + 1)), .int (X_ln u), .int (X_ep u), .int (X_po u)])), (g (b + 1), .inl (cT 0, 100, .inl (X_ch u)))]
abbrev TH : Type := Int32 × Int32
def H_ol (u : TH) : Int32 := u.1
def H_sz (u : TH) : Int32 := u.2
def H_ol_ (u : TH) (x : Int32) : TH := (x, u.2)
def H_sz_ (u : TH) (x : Int32) : TH := (u.1, x)
theorem H_ol_ol (u : TH) (x : Int32) : H_ol (H_ol_ u x) = x := rfl
theorem H_ol_sz (u : TH) (x : Int32) : H_sz (H_ol_ u x) = H_sz u := rfl
theorem H_sz_ol (u : TH) (x : Int32) : H_ol (H_sz_ u x) = H_ol u := rfl
theorem H_sz_sz (u : TH) (x : Int32) : H_sz (H_sz_ u x) = x := rfl
def wH (cT : Nat → ClassId) (g : Nat → Nat) (b : Nat) (u : TH) : va_W := [(g b, .inr (0, [.ref (g (b + 1)), .int (H_ol u), .int (H_sz u)])), (g (b + 1), .inl (cT 3, 6, .inr (.inr (.inr (.inr (fun i => some (g (b + (2 + 8 * i)))))))))]
def wT (g : Nat → Nat) : va_W := [(g 0, .inr (4, [.ref (g 1), .ref (g 9), .ref (g 13), .ref (g 21), .ref (g 25), .ref (g 75), .ref (g 77), .ref (g 94)]))]
def wI (cT : Nat → ClassId) (g : Nat → Nat) (b : Nat) : va_W := [(g b, .inl (cT 3, 2, .inr (.inr (.inr (.inr (fun i => some (g (b + (1 + 8 * i)))))))))]
def wK (cT : Nat → ClassId) (g : Nat → Nat) (b : Nat) (u : (Nat → Int32)) : va_W := [(g b, .inl (cT 1, 2, .inl u))]
abbrev TM : Type := (Nat → Int32) × (Nat → Int32) × (Nat → Int32) × (Nat → Int32) × (Nat → Int32) × (Nat → Int32) × (Nat → Int32) × Int32 × Int32 × Int32 × Int32 × Int32
def M_ss (u : TM) : (Nat → Int32) := u.1
def M_pa (u : TM) : (Nat → Int32) := u.2.1
def M_im (u : TM) : (Nat → Int32) := u.2.2.1
def M_as (u : TM) : (Nat → Int32) := u.2.2.2.1
def M_tx (u : TM) : (Nat → Int32) := u.2.2.2.2.1
def M_ra (u : TM) : (Nat → Int32) := u.2.2.2.2.2.1
def M_lo (u : TM) : (Nat → Int32) := u.2.2.2.2.2.2.1
def M_ps (u : TM) : Int32 := u.2.2.2.2.2.2.2.1
def M_kp (u : TM) : Int32 := u.2.2.2.2.2.2.2.2.1
def M_ty (u : TM) : Int32 := u.2.2.2.2.2.2.2.2.2.1
def M_at (u : TM) : Int32 := u.2.2.2.2.2.2.2.2.2.2.1
def M_nu (u : TM) : Int32 := u.2.2.2.2.2.2.2.2.2.2.2
def M_ss_ (u : TM) (x : (Nat → Int32)) : TM := (x, u.2.1, u.2.2.1, u.2.2.2.1, u.2.2.2.2.1, u.2.2.2.2.2.1, u.2.2.2.2.2.2.1, u.2.2.2.2.2.2.2.1, u.2.2.2.2.2.2.2.2.1, u.2.2.2.2.2.2.2.2.2.1, u.2.2.2.2.2.2.2.2.2.2.1, u.2.2.2.2.2.2.2.2.2.2.2)
def M_pa_ (u : TM) (x : (Nat → Int32)) : TM := (u.1, x, u.2.2.1, u.2.2.2.1, u.2.2.2.2.1, u.2.2.2.2.2.1, u.2.2.2.2.2.2.1, u.2.2.2.2.2.2.2.1, u.2.2.2.2.2.2.2.2.1, u.2.2.2.2.2.2.2.2.2.1, u.2.2.2.2.2.2.2.2.2.2.1, u.2.2.2.2.2.2.2.2.2.2.2)
def M_im_ (u : TM) (x : (Nat → Int32)) : TM := (u.1, u.2.1, x, u.2.2.2.1, u.2.2.2.2.1, u.2.2.2.2.2.1, u.2.2.2.2.2.2.1, u.2.2.2.2.2.2.2.1, u.2.2.2.2.2.2.2.2.1, u.2.2.2.2.2.2.2.2.2.1, u.2.2.2.2.2.2.2.2.2.2.1, u.2.2.2.2.2.2.2.2.2.2.2)
def M_as_ (u : TM) (x : (Nat → Int32)) : TM := (u.1, u.2.1, u.2.2.1, x, u.2.2.2.2.1, u.2.2.2.2.2.1, u.2.2.2.2.2.2.1, u.2.2.2.2.2.2.2.1, u.2.2.2.2.2.2.2.2.1, u.2.2.2.2.2.2.2.2.2.1, u.2.2.2.2.2.2.2.2.2.2.1, u.2.2.2.2.2.2.2.2.2.2.2)
def M_tx_ (u : TM) (x : (Nat → Int32)) : TM := (u.1, u.2.1, u.2.2.1, u.2.2.2.1, x, u.2.2.2.2.2.1, u.2.2.2.2.2.2.1, u.2.2.2.2.2.2.2.1, u.2.2.2.2.2.2.2.2.1, u.2.2.2.2.2.2.2.2.2.1, u.2.2.2.2.2.2.2.2.2.2.1, u.2.2.2.2.2.2.2.2.2.2.2)
def M_ra_ (u : TM) (x : (Nat → Int32)) : TM := (u.1, u.2.1, u.2.2.1, u.2.2.2.1, u.2.2.2.2.1, x, u.2.2.2.2.2.2.1, u.2.2.2.2.2.2.2.1, u.2.2.2.2.2.2.2.2.1, u.2.2.2.2.2.2.2.2.2.1, u.2.2.2.2.2.2.2.2.2.2.1, u.2.2.2.2.2.2.2.2.2.2.2)
def M_lo_ (u : TM) (x : (Nat → Int32)) : TM := (u.1, u.2.1, u.2.2.1, u.2.2.2.1, u.2.2.2.2.1, u.2.2.2.2.2.1, x, u.2.2.2.2.2.2.2.1, u.2.2.2.2.2.2.2.2.1, u.2.2.2.2.2.2.2.2.2.1, u.2.2.2.2.2.2.2.2.2.2.1, u.2.2.2.2.2.2.2.2.2.2.2)
def M_ps_ (u : TM) (x : Int32) : TM := (u.1, u.2.1, u.2.2.1, u.2.2.2.1, u.2.2.2.2.1, u.2.2.2.2.2.1, u.2.2.2.2.2.2.1, x, u.2.2.2.2.2.2.2.2.1, u.2.2.2.2.2.2.2.2.2.1, u.2.2.2.2.2.2.2.2.2.2.1, u.2.2.2.2.2.2.2.2.2.2.2)
def M_kp_ (u : TM) (x : Int32) : TM := (u.1, u.2.1, u.2.2.1, u.2.2.2.1, u.2.2.2.2.1, u.2.2.2.2.2.1, u.2.2.2.2.2.2.1, u.2.2.2.2.2.2.2.1, x, u.2.2.2.2.2.2.2.2.2.1, u.2.2.2.2.2.2.2.2.2.2.1, u.2.2.2.2.2.2.2.2.2.2.2)
def M_ty_ (u : TM) (x : Int32) : TM := (u.1, u.2.1, u.2.2.1, u.2.2.2.1, u.2.2.2.2.1, u.2.2.2.2.2.1, u.2.2.2.2.2.2.1, u.2.2.2.2.2.2.2.1, u.2.2.2.2.2.2.2.2.1, x, u.2.2.2.2.2.2.2.2.2.2.1, u.2.2.2.2.2.2.2.2.2.2.2)
def M_at_ (u : TM) (x : Int32) : TM := (u.1, u.2.1, u.2.2.1, u.2.2.2.1, u.2.2.2.2.1, u.2.2.2.2.2.1, u.2.2.2.2.2.2.1, u.2.2.2.2.2.2.2.1, u.2.2.2.2.2.2.2.2.1, u.2.2.2.2.2.2.2.2.2.1, x, u.2.2.2.2.2.2.2.2.2.2.2)
def M_nu_ (u : TM) (x : Int32) : TM := (u.1, u.2.1, u.2.2.1, u.2.2.2.1, u.2.2.2.2.1, u.2.2.2.2.2.1, u.2.2.2.2.2.2.1, u.2.2.2.2.2.2.2.1, u.2.2.2.2.2.2.2.2.1, u.2.2.2.2.2.2.2.2.2.1, u.2.2.2.2.2.2.2.2.2.2.1, x)
theorem M_ss_ss (u : TM) (x : (Nat → Int32)) : M_ss (M_ss_ u x) = x := rfl
theorem M_ss_pa (u : TM) (x : (Nat → Int32)) : M_pa (M_ss_ u x) = M_pa u := rfl
theorem M_ss_im (u : TM) (x : (Nat → Int32)) : M_im (M_ss_ u x) = M_im u := rfl
theorem M_ss_as (u : TM) (x : (Nat → Int32)) : M_as (M_ss_ u x) = M_as u := rfl
theorem M_ss_tx (u : TM) (x : (Nat → Int32)) : M_tx (M_ss_ u x) = M_tx u := rfl
theorem M_ss_ra (u : TM) (x : (Nat → Int32)) : M_ra (M_ss_ u x) = M_ra u := rfl
theorem M_ss_lo (u : TM) (x : (Nat → Int32)) : M_lo (M_ss_ u x) = M_lo u := rfl
theorem M_ss_ps (u : TM) (x : (Nat → Int32)) : M_ps (M_ss_ u x) = M_ps u := rfl
theorem M_ss_kp (u : TM) (x : (Nat → Int32)) : M_kp (M_ss_ u x) = M_kp u := rfl
theorem M_ss_ty (u : TM) (x : (Nat → Int32)) : M_ty (M_ss_ u x) = M_ty u := rfl
theorem M_ss_at (u : TM) (x : (Nat → Int32)) : M_at (M_ss_ u x) = M_at u := rfl
theorem M_ss_nu (u : TM) (x : (Nat → Int32)) : M_nu (M_ss_ u x) = M_nu u := rfl
theorem M_pa_ss (u : TM) (x : (Nat → Int32)) : M_ss (M_pa_ u x) = M_ss u := rfl
theorem M_pa_pa (u : TM) (x : (Nat → Int32)) : M_pa (M_pa_ u x) = x := rfl
theorem M_pa_im (u : TM) (x : (Nat → Int32)) : M_im (M_pa_ u x) = M_im u := rfl
theorem M_pa_as (u : TM) (x : (Nat → Int32)) : M_as (M_pa_ u x) = M_as u := rfl
theorem M_pa_tx (u : TM) (x : (Nat → Int32)) : M_tx (M_pa_ u x) = M_tx u := rfl
theorem M_pa_ra (u : TM) (x : (Nat → Int32)) : M_ra (M_pa_ u x) = M_ra u := rfl
theorem M_pa_lo (u : TM) (x : (Nat → Int32)) : M_lo (M_pa_ u x) = M_lo u := rfl
theorem M_pa_ps (u : TM) (x : (Nat → Int32)) : M_ps (M_pa_ u x) = M_ps u := rfl
theorem M_pa_kp (u : TM) (x : (Nat → Int32)) : M_kp (M_pa_ u x) = M_kp u := rfl
theorem M_pa_ty (u : TM) (x : (Nat → Int32)) : M_ty (M_pa_ u x) = M_ty u := rfl
theorem M_pa_at (u : TM) (x : (Nat → Int32)) : M_at (M_pa_ u x) = M_at u := rfl
theorem M_pa_nu (u : TM) (x : (Nat → Int32)) : M_nu (M_pa_ u x) = M_nu u := rfl
theorem M_im_ss (u : TM) (x : (Nat → Int32)) : M_ss (M_im_ u x) = M_ss u := rfl
theorem M_im_pa (u : TM) (x : (Nat → Int32)) : M_pa (M_im_ u x) = M_pa u := rfl
theorem M_im_im (u : TM) (x : (Nat → Int32)) : M_im (M_im_ u x) = x := rfl
theorem M_im_as (u : TM) (x : (Nat → Int32)) : M_as (M_im_ u x) = M_as u := rfl
theorem M_im_tx (u : TM) (x : (Nat → Int32)) : M_tx (M_im_ u x) = M_tx u := rfl
theorem M_im_ra (u : TM) (x : (Nat → Int32)) : M_ra (M_im_ u x) = M_ra u := rfl
theorem M_im_lo (u : TM) (x : (Nat → Int32)) : M_lo (M_im_ u x) = M_lo u := rfl
theorem M_im_ps (u : TM) (x : (Nat → Int32)) : M_ps (M_im_ u x) = M_ps u := rfl
theorem M_im_kp (u : TM) (x : (Nat → Int32)) : M_kp (M_im_ u x) = M_kp u := rfl
theorem M_im_ty (u : TM) (x : (Nat → Int32)) : M_ty (M_im_ u x) = M_ty u := rfl
theorem M_im_at (u : TM) (x : (Nat → Int32)) : M_at (M_im_ u x) = M_at u := rfl
theorem M_im_nu (u : TM) (x : (Nat → Int32)) : M_nu (M_im_ u x) = M_nu u := rfl
theorem M_as_ss (u : TM) (x : (Nat → Int32)) : M_ss (M_as_ u x) = M_ss u := rfl
theorem M_as_pa (u : TM) (x : (Nat → Int32)) : M_pa (M_as_ u x) = M_pa u := rfl
theorem M_as_im (u : TM) (x : (Nat → Int32)) : M_im (M_as_ u x) = M_im u := rfl
theorem M_as_as (u : TM) (x : (Nat → Int32)) : M_as (M_as_ u x) = x := rfl
theorem M_as_tx (u : TM) (x : (Nat → Int32)) : M_tx (M_as_ u x) = M_tx u := rfl
theorem M_as_ra (u : TM) (x : (Nat → Int32)) : M_ra (M_as_ u x) = M_ra u := rfl
theorem M_as_lo (u : TM) (x : (Nat → Int32)) : M_lo (M_as_ u x) = M_lo u := rfl
theorem M_as_ps (u : TM) (x : (Nat → Int32)) : M_ps (M_as_ u x) = M_ps u := rfl
theorem M_as_kp (u : TM) (x : (Nat → Int32)) : M_kp (M_as_ u x) = M_kp u := rfl
theorem M_as_ty (u : TM) (x : (Nat → Int32)) : M_ty (M_as_ u x) = M_ty u := rfl
theorem M_as_at (u : TM) (x : (Nat → Int32)) : M_at (M_as_ u x) = M_at u := rfl
theorem M_as_nu (u : TM) (x : (Nat → Int32)) : M_nu (M_as_ u x) = M_nu u := rfl
theorem M_tx_ss (u : TM) (x : (Nat → Int32)) : M_ss (M_tx_ u x) = M_ss u := rfl
theorem M_tx_pa (u : TM) (x : (Nat → Int32)) : M_pa (M_tx_ u x) = M_pa u := rfl
theorem M_tx_im (u : TM) (x : (Nat → Int32)) : M_im (M_tx_ u x) = M_im u := rfl
theorem M_tx_as (u : TM) (x : (Nat → Int32)) : M_as (M_tx_ u x) = M_as u := rfl
theorem M_tx_tx (u : TM) (x : (Nat → Int32)) : M_tx (M_tx_ u x) = x := rfl
theorem M_tx_ra (u : TM) (x : (Nat → Int32)) : M_ra (M_tx_ u x) = M_ra u := rfl
theorem M_tx_lo (u : TM) (x : (Nat → Int32)) : M_lo (M_tx_ u x) = M_lo u := rfl
theorem M_tx_ps (u : TM) (x : (Nat → Int32)) : M_ps (M_tx_ u x) = M_ps u := rfl
theorem M_tx_kp (u : TM) (x : (Nat → Int32)) : M_kp (M_tx_ u x) = M_kp u := rfl
theorem M_tx_ty (u : TM) (x : (Nat → Int32)) : M_ty (M_tx_ u x) = M_ty u := rfl
theorem M_tx_at (u : TM) (x : (Nat → Int32)) : M_at (M_tx_ u x) = M_at u := rfl
theorem M_tx_nu (u : TM) (x : (Nat → Int32)) : M_nu (M_tx_ u x) = M_nu u := rfl
theorem M_ra_ss (u : TM) (x : (Nat → Int32)) : M_ss (M_ra_ u x) = M_ss u := rfl
theorem M_ra_pa (u : TM) (x : (Nat → Int32)) : M_pa (M_ra_ u x) = M_pa u := rfl
theorem M_ra_im (u : TM) (x : (Nat → Int32)) : M_im (M_ra_ u x) = M_im u := rfl
theorem M_ra_as (u : TM) (x : (Nat → Int32)) : M_as (M_ra_ u x) = M_as u := rfl
theorem M_ra_tx (u : TM) (x : (Nat → Int32)) : M_tx (M_ra_ u x) = M_tx u := rfl
theorem M_ra_ra (u : TM) (x : (Nat → Int32)) : M_ra (M_ra_ u x) = x := rfl
theorem M_ra_lo (u : TM) (x : (Nat → Int32)) : M_lo (M_ra_ u x) = M_lo u := rfl
theorem M_ra_ps (u : TM) (x : (Nat → Int32)) : M_ps (M_ra_ u x) = M_ps u := rfl
theorem M_ra_kp (u : TM) (x : (Nat → Int32)) : M_kp (M_ra_ u x) = M_kp u := rfl
theorem M_ra_ty (u : TM) (x : (Nat → Int32)) : M_ty (M_ra_ u x) = M_ty u := rfl
theorem M_ra_at (u : TM) (x : (Nat → Int32)) : M_at (M_ra_ u x) = M_at u := rfl
theorem M_ra_nu (u : TM) (x : (Nat → Int32)) : M_nu (M_ra_ u x) = M_nu u := rfl
theorem M_lo_ss (u : TM) (x : (Nat → Int32)) : M_ss (M_lo_ u x) = M_ss u := rfl
theorem M_lo_pa (u : TM) (x : (Nat → Int32)) : M_pa (M_lo_ u x) = M_pa u := rfl
theorem M_lo_im (u : TM) (x : (Nat → Int32)) : M_im (M_lo_ u x) = M_im u := rfl
theorem M_lo_as (u : TM) (x : (Nat → Int32)) : M_as (M_lo_ u x) = M_as u := rfl
theorem M_lo_tx (u : TM) (x : (Nat → Int32)) : M_tx (M_lo_ u x) = M_tx u := rfl
theorem M_lo_ra (u : TM) (x : (Nat → Int32)) : M_ra (M_lo_ u x) = M_ra u := rfl
theorem M_lo_lo (u : TM) (x : (Nat → Int32)) : M_lo (M_lo_ u x) = x := rfl
theorem M_lo_ps (u : TM) (x : (Nat → Int32)) : M_ps (M_lo_ u x) = M_ps u := rfl
theorem M_lo_kp (u : TM) (x : (Nat → Int32)) : M_kp (M_lo_ u x) = M_kp u := rfl
theorem M_lo_ty (u : TM) (x : (Nat → Int32)) : M_ty (M_lo_ u x) = M_ty u := rfl
theorem M_lo_at (u : TM) (x : (Nat → Int32)) : M_at (M_lo_ u x) = M_at u := rfl
theorem M_lo_nu (u : TM) (x : (Nat → Int32)) : M_nu (M_lo_ u x) = M_nu u := rfl
theorem M_ps_ss (u : TM) (x : Int32) : M_ss (M_ps_ u x) = M_ss u := rfl
theorem M_ps_pa (u : TM) (x : Int32) : M_pa (M_ps_ u x) = M_pa u := rfl
theorem M_ps_im (u : TM) (x : Int32) : M_im (M_ps_ u x) = M_im u := rfl
theorem M_ps_as (u : TM) (x : Int32) : M_as (M_ps_ u x) = M_as u := rfl
theorem M_ps_tx (u : TM) (x : Int32) : M_tx (M_ps_ u x) = M_tx u := rfl
theorem M_ps_ra (u : TM) (x : Int32) : M_ra (M_ps_ u x) = M_ra u := rfl
theorem M_ps_lo (u : TM) (x : Int32) : M_lo (M_ps_ u x) = M_lo u := rfl
theorem M_ps_ps (u : TM) (x : Int32) : M_ps (M_ps_ u x) = x := rfl
theorem M_ps_kp (u : TM) (x : Int32) : M_kp (M_ps_ u x) = M_kp u := rfl
theorem M_ps_ty (u : TM) (x : Int32) : M_ty (M_ps_ u x) = M_ty u := rfl
theorem M_ps_at (u : TM) (x : Int32) : M_at (M_ps_ u x) = M_at u := rfl
theorem M_ps_nu (u : TM) (x : Int32) : M_nu (M_ps_ u x) = M_nu u := rfl
theorem M_kp_ss (u : TM) (x : Int32) : M_ss (M_kp_ u x) = M_ss u := rfl
theorem M_kp_pa (u : TM) (x : Int32) : M_pa (M_kp_ u x) = M_pa u := rfl
theorem M_kp_im (u : TM) (x : Int32) : M_im (M_kp_ u x) = M_im u := rfl
theorem M_kp_as (u : TM) (x : Int32) : M_as (M_kp_ u x) = M_as u := rfl
theorem M_kp_tx (u : TM) (x : Int32) : M_tx (M_kp_ u x) = M_tx u := rfl
theorem M_kp_ra (u : TM) (x : Int32) : M_ra (M_kp_ u x) = M_ra u := rfl
theorem M_kp_lo (u : TM) (x : Int32) : M_lo (M_kp_ u x) = M_lo u := rfl
theorem M_kp_ps (u : TM) (x : Int32) : M_ps (M_kp_ u x) = M_ps u := rfl
theorem M_kp_kp (u : TM) (x : Int32) : M_kp (M_kp_ u x) = x := rfl
theorem M_kp_ty (u : TM) (x : Int32) : M_ty (M_kp_ u x) = M_ty u := rfl
theorem M_kp_at (u : TM) (x : Int32) : M_at (M_kp_ u x) = M_at u := rfl
theorem M_kp_nu (u : TM) (x : Int32) : M_nu (M_kp_ u x) = M_nu u := rfl
theorem M_ty_ss (u : TM) (x : Int32) : M_ss (M_ty_ u x) = M_ss u := rfl
theorem M_ty_pa (u : TM) (x : Int32) : M_pa (M_ty_ u x) = M_pa u := rfl
theorem M_ty_im (u : TM) (x : Int32) : M_im (M_ty_ u x) = M_im u := rfl
theorem M_ty_as (u : TM) (x : Int32) : M_as (M_ty_ u x) = M_as u := rfl
theorem M_ty_tx (u : TM) (x : Int32) : M_tx (M_ty_ u x) = M_tx u := rfl
theorem M_ty_ra (u : TM) (x : Int32) : M_ra (M_ty_ u x) = M_ra u := rfl
theorem M_ty_lo (u : TM) (x : Int32) : M_lo (M_ty_ u x) = M_lo u := rfl
theorem M_ty_ps (u : TM) (x : Int32) : M_ps (M_ty_ u x) = M_ps u := rfl
theorem M_ty_kp (u : TM) (x : Int32) : M_kp (M_ty_ u x) = M_kp u := rfl
theorem M_ty_ty (u : TM) (x : Int32) : M_ty (M_ty_ u x) = x := rfl
theorem M_ty_at (u : TM) (x : Int32) : M_at (M_ty_ u x) = M_at u := rfl
theorem M_ty_nu (u : TM) (x : Int32) : M_nu (M_ty_ u x) = M_nu u := rfl
theorem M_at_ss (u : TM) (x : Int32) : M_ss (M_at_ u x) = M_ss u := rfl
theorem M_at_pa (u : TM) (x : Int32) : M_pa (M_at_ u x) = M_pa u := rfl
theorem M_at_im (u : TM) (x : Int32) : M_im (M_at_ u x) = M_im u := rfl
theorem M_at_as (u : TM) (x : Int32) : M_as (M_at_ u x) = M_as u := rfl
theorem M_at_tx (u : TM) (x : Int32) : M_tx (M_at_ u x) = M_tx u := rfl
theorem M_at_ra (u : TM) (x : Int32) : M_ra (M_at_ u x) = M_ra u := rfl
theorem M_at_lo (u : TM) (x : Int32) : M_lo (M_at_ u x) = M_lo u := rfl
theorem M_at_ps (u : TM) (x : Int32) : M_ps (M_at_ u x) = M_ps u := rfl
theorem M_at_kp (u : TM) (x : Int32) : M_kp (M_at_ u x) = M_kp u := rfl
theorem M_at_ty (u : TM) (x : Int32) : M_ty (M_at_ u x) = M_ty u := rfl
theorem M_at_at (u : TM) (x : Int32) : M_at (M_at_ u x) = x := rfl
theorem M_at_nu (u : TM) (x : Int32) : M_nu (M_at_ u x) = M_nu u := rfl
theorem M_nu_ss (u : TM) (x : Int32) : M_ss (M_nu_ u x) = M_ss u := rfl
theorem M_nu_pa (u : TM) (x : Int32) : M_pa (M_nu_ u x) = M_pa u := rfl
theorem M_nu_im (u : TM) (x : Int32) : M_im (M_nu_ u x) = M_im u := rfl
theorem M_nu_as (u : TM) (x : Int32) : M_as (M_nu_ u x) = M_as u := rfl
theorem M_nu_tx (u : TM) (x : Int32) : M_tx (M_nu_ u x) = M_tx u := rfl
theorem M_nu_ra (u : TM) (x : Int32) : M_ra (M_nu_ u x) = M_ra u := rfl
theorem M_nu_lo (u : TM) (x : Int32) : M_lo (M_nu_ u x) = M_lo u := rfl
theorem M_nu_ps (u : TM) (x : Int32) : M_ps (M_nu_ u x) = M_ps u := rfl
theorem M_nu_kp (u : TM) (x : Int32) : M_kp (M_nu_ u x) = M_kp u := rfl
theorem M_nu_ty (u : TM) (x : Int32) : M_ty (M_nu_ u x) = M_ty u := rfl
theorem M_nu_at (u : TM) (x : Int32) : M_at (M_nu_ u x) = M_at u := rfl
theorem M_nu_nu (u : TM) (x : Int32) : M_nu (M_nu_ u x) = x := rfl
def wM (cT : Nat → ClassId) (g : Nat → Nat) (b : Nat) (u : TM) : va_W := [(g b, .inr (5, [.ref (g (b + 1)), .ref (g (b + 2)), .int (M_ps u), .ref (g (b + 3)), .int (M_kp u), .ref (g (b + 4)), .ref (g (b + 5)), .int (M_ty u), .ref (g (b + 6)), .ref (g (b + 7)), .int (M_at u), .int (M_nu u)])), (g (b + 1), .inl (cT 0, 281, .inl (M_ss u))), (g (b + 2), .inl (cT 0, 1686, .inl (M_pa u))), (g (b + 3), .inl (cT 0, 562, .inl (M_im u))), (g (b + 4), .inl (cT 0, 281, .inl (M_as u))), (g (b + 5), .inl (cT 2, 100, .inl (M_tx u))), (g (b + 6), .inl (cT 0, 60, .inl (M_ra u))), (g (b + 7), .inl (cT 0, 60, .inl (M_lo u)))]
def wA (cT : Nat → ClassId) (g : Nat → Nat) (b : Nat) (na : Nat) (u : (Nat → Int32)) : va_W := [(g b, .inl (cT 0, na, .inl u))]
end
section
theorem iw_X1_copyFrom_X1 : ∀ w ∈ u_ws RX1 TX1 9, w ∈ wsX1_copyFrom := by decide +kernel
def f_X1_copyFrom (fu : Nat) (u_st : TS) (u_ot : TS)  : Option (TS) :=
nm (S_sl u_ot) fun (x19 : Int32) =>
nm (S_sl_ u_st x19) fun (u20 : TS) =>
nm (S_jb u_ot) fun (x21 : Int32) =>
nm (S_jb_ u20 x21) fun (u22 : TS) =>
rq (cpk ((0 : Int32)) ((0 : Int32)) ((8 : Int32)) 8 8) <|
nm (S_nu_ u22 (va_cpy (S_nu u_ot) (S_nu u22) ((0 : Int32)).toNatClampNeg ((0 : Int32)).toNatClampNeg ((8 : Int32)).toNatClampNeg)) fun (u24 : TS) =>
rq (cpk ((0 : Int32)) ((0 : Int32)) ((60 : Int32)) 60 60) <|
nm (S_lv_ u24 (va_cpy (S_lv u_ot) (S_lv u24) ((0 : Int32)).toNatClampNeg ((0 : Int32)).toNatClampNeg ((60 : Int32)).toNatClampNeg)) fun (u26 : TS) =>
rq (cpk ((0 : Int32)) ((0 : Int32)) ((60 : Int32)) 60 60) <|
nm (S_fo_ u26 (va_cpy (S_fo u_ot) (S_fo u26) ((0 : Int32)).toNatClampNeg ((0 : Int32)).toNatClampNeg ((60 : Int32)).toNatClampNeg)) fun (u28 : TS) =>
rq (cpk ((0 : Int32)) ((0 : Int32)) ((60 : Int32)) 60 60) <|
nm (S_se_ u28 (va_cpy (S_se u_ot) (S_se u28) ((0 : Int32)).toNatClampNeg ((0 : Int32)).toNatClampNeg ((60 : Int32)).toNatClampNeg)) fun (u30 : TS) =>
rq (cpk ((0 : Int32)) ((0 : Int32)) ((60 : Int32)) 60 60) <|
nm (S_li_ u30 (va_cpy (S_li u_ot) (S_li u30) ((0 : Int32)).toNatClampNeg ((0 : Int32)).toNatClampNeg ((60 : Int32)).toNatClampNeg)) fun (u32 : TS) =>
rq (cpk ((0 : Int32)) ((0 : Int32)) ((24 : Int32)) 24 24) <|
nm (S_jr_ u32 (va_cpy (S_jr u_ot) (S_jr u32) ((0 : Int32)).toNatClampNeg ((0 : Int32)).toNatClampNeg ((24 : Int32)).toNatClampNeg)) fun (u34 : TS) =>
rq (cpk ((0 : Int32)) ((0 : Int32)) ((7 : Int32)) 7 7) <|
nm (S_ac_ u34 (va_cpy (S_ac u_ot) (S_ac u34) ((0 : Int32)).toNatClampNeg ((0 : Int32)).toNatClampNeg ((7 : Int32)).toNatClampNeg)) fun (u36 : TS) =>
some (u36)

abbrev rm_X1_copyFrom : Room := { frames := 1, cells := 0, slots := 0, locals := 60 }
set_option maxHeartbeats 4000000 in
set_option maxRecDepth 100000 in
theorem c_X1_copyFrom (l : Launch) (D : va_G) (cT : Nat → ClassId) (g : Nat → Nat) (b b2 : Nat) (fu : Nat) (u_st : TS) (u_ot : TS)  (o : TS) (hf : f_X1_copyFrom fu u_st u_ot  = some o) (sz : Nat) : Met l yX1_copyFrom wsX1_copyFrom rm_X1_copyFrom (va_Pc [.ref (g b), .ref (g b2)] (PRE D cT sz (List.flatten [wS cT g b u_st, wS cT g b2 u_ot]))) (QV D (List.flatten [wS cT g b o, wS cT g b2 u_ot]) (va_A (List.flatten [wS cT g b u_st, wS cT g b2 u_ot]) sz)) 0 0 (va_A (List.flatten [wS cT g b u_st, wS cT g b2 u_ot]) sz) := by
  refine Met.ofW (cc := cX1_copyFrom) (maxL := 2) (ret := none) (by decide) rfl ?_
  intro p e s m args below meth c s₁ B0 hml hv
  obtain ⟨hav, hsz, hP, hK, hD, hN, hZ⟩ := hv
  have hx := B0.exec
  have hb := B0.bytes
  have hr := B0.returns
  have hts := atoms_spec (ws := wsX1_copyFrom) B0.pre
  have hown : s.vm.findClass RX1 = some m.cls := findClass_of_methodNamed B0.named
  have hlocks := B0.notSynchronized
  subst hsz
  have hD := hD.self (sz := s.heap.size)
  have hA : ∀ q : Nat, s.heap.size ≤ q → va_A (List.flatten [wS cT g b u_st, wS cT g b2 u_ot]) s.heap.size q := fun q h => Or.inr h
  generalize va_A (List.flatten [wS cT g b u_st, wS cT g b2 u_ot]) s.heap.size = A at hD hZ hA ⊢
  have hS : va_S A s.heap s.heap [] := va_S.rf
  have hl := lv_entry ([.ref (g b), .ref (g b2)]) (n := 2) (Nat.le_of_ble_eq_true rfl)
  rw [hav]
  rw [lg_entry_eq]
  generalize (lg_sl ([.ref (g b), .ref (g b2)]) ++ List.replicate (2 - (lg_sl ([.ref (g b), .ref (g b2)])).length) Slot.unset).toArray = ls at hl ⊢
  have hl : lv_has ls 2 [(0, .ref (g b)), (1, .ref (g b2))] := hl
  rw [← hav]
  generalize hQ : MQ below _ _ _ _ _ _ = Q
  show W p l e rm_X1_copyFrom s m args below meth c s.heap [] 0 0 Q (F0 m 0 ls [])
  unfold f_X1_copyFrom at hf
  refine lv_aload_n hx hb dX1_copyFrom_0 rfl (lv_at hl 0 rfl) ?_
  refine lv_aload_n hx hb dX1_copyFrom_1 rfl (lv_at hl 1 rfl) ?_
  refine va_get (ci := 1) (v := .int (S_sl u_ot)) (C := RX1) (T := TX1) (N := 9) hx hb hts iw_X1_copyFrom_X1 hown hK hP 8 rfl rfl 0 (by decide) (hts (.fieldLink RX1 9 "BallastTrack$State" "sleepers" "I") (List.mem_of_getElem? (i := 1) rfl)) (fun _ h9 => h9) rfl dX1_copyFrom_2 ?_
  refine lv_topi (fun x19 ex19 => ?_)
  replace hf := nm_i hf ex19
  refine va_put (ci := 1) (v := .int x19) (ty := .int) (C := RX1) (T := TX1) (N := 9) hx hb hts iw_X1_copyFrom_X1 tyX1 tyX1_ok nmX1 hown hK hP (va_D_adr hD rfl) hS 0 rfl rfl 0 (by decide) (hts (.fieldLink RX1 9 "BallastTrack$State" "sleepers" "I") (List.mem_of_getElem? (i := 1) rfl)) (fun _ h9 => h9) rfl (by decide +kernel) rfl rfl (Nat.le_of_ble_eq_true rfl) dX1_copyFrom_5 (fun H locs hP _ hS => ?_)
  obtain ⟨u20, eu20⟩ : ∃ z : TS, z = S_sl_ u_st x19 := ⟨_, rfl⟩
  replace hf := nm_i hf eu20
  have hP : va_P D vwCl (List.flatten [wS cT g b u20, wS cT g b2 u_ot]) H := by rw [eu20]; exact hP
  refine lv_aload_n hx hb dX1_copyFrom_8 rfl (lv_at hl 0 rfl) ?_
  refine lv_aload_n hx hb dX1_copyFrom_9 rfl (lv_at hl 1 rfl) ?_
  refine va_get (ci := 1) (v := .int (S_jb u_ot)) (C := RX1) (T := TX1) (N := 9) hx hb hts iw_X1_copyFrom_X1 hown hK hP 8 rfl rfl 1 (by decide) (hts (.fieldLink RX1 15 "BallastTrack$State" "jobs" "I") (List.mem_of_getElem? (i := 2) rfl)) (fun _ h9 => h9) rfl dX1_copyFrom_10 ?_
  refine lv_topi (fun x21 ex21 => ?_)
  replace hf := nm_i hf ex21
  refine va_put (ci := 1) (v := .int x21) (ty := .int) (C := RX1) (T := TX1) (N := 9) hx hb hts iw_X1_copyFrom_X1 tyX1 tyX1_ok nmX1 hown hK hP (va_D_adr hD rfl) hS 0 rfl rfl 1 (by decide) (hts (.fieldLink RX1 15 "BallastTrack$State" "jobs" "I") (List.mem_of_getElem? (i := 2) rfl)) (fun _ h9 => h9) rfl (by decide +kernel) rfl rfl (Nat.le_of_ble_eq_true rfl) dX1_copyFrom_13 (fun H locs hP _ hS => ?_)
  obtain ⟨u22, eu22⟩ : ∃ z : TS, z = S_jb_ u20 x21 := ⟨_, rfl⟩
  replace hf := nm_i hf eu22
  have hP : va_P D vwCl (List.flatten [wS cT g b u22, wS cT g b2 u_ot]) H := by rw [eu22]; exact hP
  refine lv_aload_n hx hb dX1_copyFrom_16 rfl (lv_at hl 1 rfl) ?_
  refine va_get (ci := 1) (v := .ref (g (b2 + 1))) (C := RX1) (T := TX1) (N := 9) hx hb hts iw_X1_copyFrom_X1 hown hK hP 8 rfl rfl 2 (by decide) (hts (.fieldLink RX1 18 "BallastTrack$State" "numbers" "[I") (List.mem_of_getElem? (i := 3) rfl)) (fun _ h9 => h9) rfl dX1_copyFrom_17 ?_
  refine lv_iconst (v := 0) hx hb dX1_copyFrom_20 (by decide) ?_
  refine lv_aload_n hx hb dX1_copyFrom_21 rfl (lv_at hl 0 rfl) ?_
  refine va_get (ci := 1) (v := .ref (g (b + 1))) (C := RX1) (T := TX1) (N := 9) hx hb hts iw_X1_copyFrom_X1 hown hK hP 0 rfl rfl 2 (by decide) (hts (.fieldLink RX1 18 "BallastTrack$State" "numbers" "[I") (List.mem_of_getElem? (i := 3) rfl)) (fun _ h9 => h9) rfl dX1_copyFrom_22 ?_
  refine lv_iconst (v := 0) hx hb dX1_copyFrom_25 (by decide) ?_
  refine lv_bipush (v := 8) hx hb dX1_copyFrom_26 (by decide) ?_
  obtain ⟨hq23, hf⟩ := rq_i hf
  obtain ⟨hq231, hq232, hq233, hq234, hq235⟩ := cpk_i hq23
  refine va_copyi hx hb (by rw [hml]; exact hl.1.symm) hown (hts (.methodLink RX1 43 arraycopyName) (List.mem_of_getElem? (i := 4) rfl)) (hts (.native arraycopyName) (List.mem_of_getElem? (i := 5) rfl)) (hts (.static arraycopyName) (List.mem_of_getElem? (i := 6) rfl)) (hts (.initialized "java/lang/System") (List.mem_of_getElem? (i := 7) rfl)) hK hP (va_D_adr hD rfl) hS 9 1 0 0 (ty := .int) rfl rfl rfl rfl rfl hq231 hq232 hq233 hq234 hq235 (fun _ _ => rfl) (Nat.le_of_ble_eq_true rfl) (Nat.le_of_ble_eq_true rfl) dX1_copyFrom_28 (fun H locs hP _ hS => ?_)
  obtain ⟨u24, eu24⟩ : ∃ z : TS, z = S_nu_ u22 (va_cpy (S_nu u_ot) (S_nu u22) ((0 : Int32)).toNatClampNeg ((0 : Int32)).toNatClampNeg ((8 : Int32)).toNatClampNeg) := ⟨_, rfl⟩
  replace hf := nm_i hf eu24
  have hP : va_P D vwCl (List.flatten [wS cT g b u24, wS cT g b2 u_ot]) H := by rw [eu24]; exact hP
  refine lv_aload_n hx hb dX1_copyFrom_31 rfl (lv_at hl 1 rfl) ?_
  refine va_get (ci := 1) (v := .ref (g (b2 + 2))) (C := RX1) (T := TX1) (N := 9) hx hb hts iw_X1_copyFrom_X1 hown hK hP 8 rfl rfl 3 (by decide) (hts (.fieldLink RX1 22 "BallastTrack$State" "levels" "[I") (List.mem_of_getElem? (i := 8) rfl)) (fun _ h9 => h9) rfl dX1_copyFrom_32 ?_
  refine lv_iconst (v := 0) hx hb dX1_copyFrom_35 (by decide) ?_
  refine lv_aload_n hx hb dX1_copyFrom_36 rfl (lv_at hl 0 rfl) ?_
  refine va_get (ci := 1) (v := .ref (g (b + 2))) (C := RX1) (T := TX1) (N := 9) hx hb hts iw_X1_copyFrom_X1 hown hK hP 0 rfl rfl 3 (by decide) (hts (.fieldLink RX1 22 "BallastTrack$State" "levels" "[I") (List.mem_of_getElem? (i := 8) rfl)) (fun _ h9 => h9) rfl dX1_copyFrom_37 ?_
  refine lv_iconst (v := 0) hx hb dX1_copyFrom_40 (by decide) ?_
  refine lv_bipush (v := 60) hx hb dX1_copyFrom_41 (by decide) ?_
  obtain ⟨hq25, hf⟩ := rq_i hf
  obtain ⟨hq251, hq252, hq253, hq254, hq255⟩ := cpk_i hq25
  refine va_copyi hx hb (by rw [hml]; exact hl.1.symm) hown (hts (.methodLink RX1 43 arraycopyName) (List.mem_of_getElem? (i := 4) rfl)) (hts (.native arraycopyName) (List.mem_of_getElem? (i := 5) rfl)) (hts (.static arraycopyName) (List.mem_of_getElem? (i := 6) rfl)) (hts (.initialized "java/lang/System") (List.mem_of_getElem? (i := 7) rfl)) hK hP (va_D_adr hD rfl) hS 10 2 0 0 (ty := .int) rfl rfl rfl rfl rfl hq251 hq252 hq253 hq254 hq255 (fun _ _ => rfl) (Nat.le_of_ble_eq_true rfl) (Nat.le_of_ble_eq_true rfl) dX1_copyFrom_43 (fun H locs hP _ hS => ?_)
  obtain ⟨u26, eu26⟩ : ∃ z : TS, z = S_lv_ u24 (va_cpy (S_lv u_ot) (S_lv u24) ((0 : Int32)).toNatClampNeg ((0 : Int32)).toNatClampNeg ((60 : Int32)).toNatClampNeg) := ⟨_, rfl⟩
  replace hf := nm_i hf eu26
  have hP : va_P D vwCl (List.flatten [wS cT g b u26, wS cT g b2 u_ot]) H := by rw [eu26]; exact hP
  refine lv_aload_n hx hb dX1_copyFrom_46 rfl (lv_at hl 1 rfl) ?_
  refine va_get (ci := 1) (v := .ref (g (b2 + 3))) (C := RX1) (T := TX1) (N := 9) hx hb hts iw_X1_copyFrom_X1 hown hK hP 8 rfl rfl 4 (by decide) (hts (.fieldLink RX1 25 "BallastTrack$State" "foulings" "[I") (List.mem_of_getElem? (i := 9) rfl)) (fun _ h9 => h9) rfl dX1_copyFrom_47 ?_
  refine lv_iconst (v := 0) hx hb dX1_copyFrom_50 (by decide) ?_
  refine lv_aload_n hx hb dX1_copyFrom_51 rfl (lv_at hl 0 rfl) ?_
  refine va_get (ci := 1) (v := .ref (g (b + 3))) (C := RX1) (T := TX1) (N := 9) hx hb hts iw_X1_copyFrom_X1 hown hK hP 0 rfl rfl 4 (by decide) (hts (.fieldLink RX1 25 "BallastTrack$State" "foulings" "[I") (List.mem_of_getElem? (i := 9) rfl)) (fun _ h9 => h9) rfl dX1_copyFrom_52 ?_
  refine lv_iconst (v := 0) hx hb dX1_copyFrom_55 (by decide) ?_
  refine lv_bipush (v := 60) hx hb dX1_copyFrom_56 (by decide) ?_
  obtain ⟨hq27, hf⟩ := rq_i hf
  obtain ⟨hq271, hq272, hq273, hq274, hq275⟩ := cpk_i hq27
  refine va_copyi hx hb (by rw [hml]; exact hl.1.symm) hown (hts (.methodLink RX1 43 arraycopyName) (List.mem_of_getElem? (i := 4) rfl)) (hts (.native arraycopyName) (List.mem_of_getElem? (i := 5) rfl)) (hts (.static arraycopyName) (List.mem_of_getElem? (i := 6) rfl)) (hts (.initialized "java/lang/System") (List.mem_of_getElem? (i := 7) rfl)) hK hP (va_D_adr hD rfl) hS 11 3 0 0 (ty := .int) rfl rfl rfl rfl rfl hq271 hq272 hq273 hq274 hq275 (fun _ _ => rfl) (Nat.le_of_ble_eq_true rfl) (Nat.le_of_ble_eq_true rfl) dX1_copyFrom_58 (fun H locs hP _ hS => ?_)
  obtain ⟨u28, eu28⟩ : ∃ z : TS, z = S_fo_ u26 (va_cpy (S_fo u_ot) (S_fo u26) ((0 : Int32)).toNatClampNeg ((0 : Int32)).toNatClampNeg ((60 : Int32)).toNatClampNeg) := ⟨_, rfl⟩
  replace hf := nm_i hf eu28
  have hP : va_P D vwCl (List.flatten [wS cT g b u28, wS cT g b2 u_ot]) H := by rw [eu28]; exact hP
  refine lv_aload_n hx hb dX1_copyFrom_61 rfl (lv_at hl 1 rfl) ?_
  refine va_get (ci := 1) (v := .ref (g (b2 + 4))) (C := RX1) (T := TX1) (N := 9) hx hb hts iw_X1_copyFrom_X1 hown hK hP 8 rfl rfl 5 (by decide) (hts (.fieldLink RX1 28 "BallastTrack$State" "settled" "[I") (List.mem_of_getElem? (i := 10) rfl)) (fun _ h9 => h9) rfl dX1_copyFrom_62 ?_
  refine lv_iconst (v := 0) hx hb dX1_copyFrom_65 (by decide) ?_
  refine lv_aload_n hx hb dX1_copyFrom_66 rfl (lv_at hl 0 rfl) ?_
  refine va_get (ci := 1) (v := .ref (g (b + 4))) (C := RX1) (T := TX1) (N := 9) hx hb hts iw_X1_copyFrom_X1 hown hK hP 0 rfl rfl 5 (by decide) (hts (.fieldLink RX1 28 "BallastTrack$State" "settled" "[I") (List.mem_of_getElem? (i := 10) rfl)) (fun _ h9 => h9) rfl dX1_copyFrom_67 ?_
  refine lv_iconst (v := 0) hx hb dX1_copyFrom_70 (by decide) ?_
  refine lv_bipush (v := 60) hx hb dX1_copyFrom_71 (by decide) ?_
  obtain ⟨hq29, hf⟩ := rq_i hf
  obtain ⟨hq291, hq292, hq293, hq294, hq295⟩ := cpk_i hq29
  refine va_copyi hx hb (by rw [hml]; exact hl.1.symm) hown (hts (.methodLink RX1 43 arraycopyName) (List.mem_of_getElem? (i := 4) rfl)) (hts (.native arraycopyName) (List.mem_of_getElem? (i := 5) rfl)) (hts (.static arraycopyName) (List.mem_of_getElem? (i := 6) rfl)) (hts (.initialized "java/lang/System") (List.mem_of_getElem? (i := 7) rfl)) hK hP (va_D_adr hD rfl) hS 12 4 0 0 (ty := .int) rfl rfl rfl rfl rfl hq291 hq292 hq293 hq294 hq295 (fun _ _ => rfl) (Nat.le_of_ble_eq_true rfl) (Nat.le_of_ble_eq_true rfl) dX1_copyFrom_73 (fun H locs hP _ hS => ?_)
  obtain ⟨u30, eu30⟩ : ∃ z : TS, z = S_se_ u28 (va_cpy (S_se u_ot) (S_se u28) ((0 : Int32)).toNatClampNeg ((0 : Int32)).toNatClampNeg ((60 : Int32)).toNatClampNeg) := ⟨_, rfl⟩
  replace hf := nm_i hf eu30
  have hP : va_P D vwCl (List.flatten [wS cT g b u30, wS cT g b2 u_ot]) H := by rw [eu30]; exact hP
  refine lv_aload_n hx hb dX1_copyFrom_76 rfl (lv_at hl 1 rfl) ?_
  refine va_get (ci := 1) (v := .ref (g (b2 + 5))) (C := RX1) (T := TX1) (N := 9) hx hb hts iw_X1_copyFrom_X1 hown hK hP 8 rfl rfl 6 (by decide) (hts (.fieldLink RX1 31 "BallastTrack$State" "lifted" "[I") (List.mem_of_getElem? (i := 11) rfl)) (fun _ h9 => h9) rfl dX1_copyFrom_77 ?_
  refine lv_iconst (v := 0) hx hb dX1_copyFrom_80 (by decide) ?_
  refine lv_aload_n hx hb dX1_copyFrom_81 rfl (lv_at hl 0 rfl) ?_
  refine va_get (ci := 1) (v := .ref (g (b + 5))) (C := RX1) (T := TX1) (N := 9) hx hb hts iw_X1_copyFrom_X1 hown hK hP 0 rfl rfl 6 (by decide) (hts (.fieldLink RX1 31 "BallastTrack$State" "lifted" "[I") (List.mem_of_getElem? (i := 11) rfl)) (fun _ h9 => h9) rfl dX1_copyFrom_82 ?_
  refine lv_iconst (v := 0) hx hb dX1_copyFrom_85 (by decide) ?_
  refine lv_bipush (v := 60) hx hb dX1_copyFrom_86 (by decide) ?_
  obtain ⟨hq31, hf⟩ := rq_i hf
  obtain ⟨hq311, hq312, hq313, hq314, hq315⟩ := cpk_i hq31
  refine va_copyi hx hb (by rw [hml]; exact hl.1.symm) hown (hts (.methodLink RX1 43 arraycopyName) (List.mem_of_getElem? (i := 4) rfl)) (hts (.native arraycopyName) (List.mem_of_getElem? (i := 5) rfl)) (hts (.static arraycopyName) (List.mem_of_getElem? (i := 6) rfl)) (hts (.initialized "java/lang/System") (List.mem_of_getElem? (i := 7) rfl)) hK hP (va_D_adr hD rfl) hS 13 5 0 0 (ty := .int) rfl rfl rfl rfl rfl hq311 hq312 hq313 hq314 hq315 (fun _ _ => rfl) (Nat.le_of_ble_eq_true rfl) (Nat.le_of_ble_eq_true rfl) dX1_copyFrom_88 (fun H locs hP _ hS => ?_)
  obtain ⟨u32, eu32⟩ : ∃ z : TS, z = S_li_ u30 (va_cpy (S_li u_ot) (S_li u30) ((0 : Int32)).toNatClampNeg ((0 : Int32)).toNatClampNeg ((60 : Int32)).toNatClampNeg) := ⟨_, rfl⟩
  replace hf := nm_i hf eu32
  have hP : va_P D vwCl (List.flatten [wS cT g b u32, wS cT g b2 u_ot]) H := by rw [eu32]; exact hP
  refine lv_aload_n hx hb dX1_copyFrom_91 rfl (lv_at hl 1 rfl) ?_
  refine va_get (ci := 1) (v := .ref (g (b2 + 6))) (C := RX1) (T := TX1) (N := 9) hx hb hts iw_X1_copyFrom_X1 hown hK hP 8 rfl rfl 7 (by decide) (hts (.fieldLink RX1 34 "BallastTrack$State" "jobRows" "[I") (List.mem_of_getElem? (i := 12) rfl)) (fun _ h9 => h9) rfl dX1_copyFrom_92 ?_
  refine lv_iconst (v := 0) hx hb dX1_copyFrom_95 (by decide) ?_
  refine lv_aload_n hx hb dX1_copyFrom_96 rfl (lv_at hl 0 rfl) ?_
  refine va_get (ci := 1) (v := .ref (g (b + 6))) (C := RX1) (T := TX1) (N := 9) hx hb hts iw_X1_copyFrom_X1 hown hK hP 0 rfl rfl 7 (by decide) (hts (.fieldLink RX1 34 "BallastTrack$State" "jobRows" "[I") (List.mem_of_getElem? (i := 12) rfl)) (fun _ h9 => h9) rfl dX1_copyFrom_97 ?_
  refine lv_iconst (v := 0) hx hb dX1_copyFrom_100 (by decide) ?_
  refine lv_bipush (v := 24) hx hb dX1_copyFrom_101 (by decide) ?_
  obtain ⟨hq33, hf⟩ := rq_i hf
  obtain ⟨hq331, hq332, hq333, hq334, hq335⟩ := cpk_i hq33
  refine va_copyi hx hb (by rw [hml]; exact hl.1.symm) hown (hts (.methodLink RX1 43 arraycopyName) (List.mem_of_getElem? (i := 4) rfl)) (hts (.native arraycopyName) (List.mem_of_getElem? (i := 5) rfl)) (hts (.static arraycopyName) (List.mem_of_getElem? (i := 6) rfl)) (hts (.initialized "java/lang/System") (List.mem_of_getElem? (i := 7) rfl)) hK hP (va_D_adr hD rfl) hS 14 6 0 0 (ty := .int) rfl rfl rfl rfl rfl hq331 hq332 hq333 hq334 hq335 (fun _ _ => rfl) (Nat.le_of_ble_eq_true rfl) (Nat.le_of_ble_eq_true rfl) dX1_copyFrom_103 (fun H locs hP _ hS => ?_)
  obtain ⟨u34, eu34⟩ : ∃ z : TS, z = S_jr_ u32 (va_cpy (S_jr u_ot) (S_jr u32) ((0 : Int32)).toNatClampNeg ((0 : Int32)).toNatClampNeg ((24 : Int32)).toNatClampNeg) := ⟨_, rfl⟩
  replace hf := nm_i hf eu34
  have hP : va_P D vwCl (List.flatten [wS cT g b u34, wS cT g b2 u_ot]) H := by rw [eu34]; exact hP
  refine lv_aload_n hx hb dX1_copyFrom_106 rfl (lv_at hl 1 rfl) ?_
  refine va_get (ci := 1) (v := .ref (g (b2 + 7))) (C := RX1) (T := TX1) (N := 9) hx hb hts iw_X1_copyFrom_X1 hown hK hP 8 rfl rfl 8 (by decide) (hts (.fieldLink RX1 37 "BallastTrack$State" "accounts" "[I") (List.mem_of_getElem? (i := 13) rfl)) (fun _ h9 => h9) rfl dX1_copyFrom_107 ?_
  refine lv_iconst (v := 0) hx hb dX1_copyFrom_110 (by decide) ?_
  refine lv_aload_n hx hb dX1_copyFrom_111 rfl (lv_at hl 0 rfl) ?_
  refine va_get (ci := 1) (v := .ref (g (b + 7))) (C := RX1) (T := TX1) (N := 9) hx hb hts iw_X1_copyFrom_X1 hown hK hP 0 rfl rfl 8 (by decide) (hts (.fieldLink RX1 37 "BallastTrack$State" "accounts" "[I") (List.mem_of_getElem? (i := 13) rfl)) (fun _ h9 => h9) rfl dX1_copyFrom_112 ?_
  refine lv_iconst (v := 0) hx hb dX1_copyFrom_115 (by decide) ?_
  refine lv_bipush (v := 7) hx hb dX1_copyFrom_116 (by decide) ?_
  obtain ⟨hq35, hf⟩ := rq_i hf
  obtain ⟨hq351, hq352, hq353, hq354, hq355⟩ := cpk_i hq35
  refine va_copyi hx hb (by rw [hml]; exact hl.1.symm) hown (hts (.methodLink RX1 43 arraycopyName) (List.mem_of_getElem? (i := 4) rfl)) (hts (.native arraycopyName) (List.mem_of_getElem? (i := 5) rfl)) (hts (.static arraycopyName) (List.mem_of_getElem? (i := 6) rfl)) (hts (.initialized "java/lang/System") (List.mem_of_getElem? (i := 7) rfl)) hK hP (va_D_adr hD rfl) hS 15 7 0 0 (ty := .int) rfl rfl rfl rfl rfl hq351 hq352 hq353 hq354 hq355 (fun _ _ => rfl) (Nat.le_of_ble_eq_true rfl) (Nat.le_of_ble_eq_true rfl) dX1_copyFrom_118 (fun H locs hP _ hS => ?_)
  obtain ⟨u36, eu36⟩ : ∃ z : TS, z = S_ac_ u34 (va_cpy (S_ac u_ot) (S_ac u34) ((0 : Int32)).toNatClampNeg ((0 : Int32)).toNatClampNeg ((7 : Int32)).toNatClampNeg) := ⟨_, rfl⟩
  replace hf := nm_i hf eu36
  have hP : va_P D vwCl (List.flatten [wS cT g b u36, wS cT g b2 u_ot]) H := by rw [eu36]; exact hP
  obtain rfl := Option.some.inj hf
  subst hQ
  exact en_v hx hb hr hP hS hlocks dX1_copyFrom_121
def lb_J7_fill_53178_5 (fu : Nat) (p1 : Int32) (x11 : Int32) (rec : Int32 → (Nat → Int32) → Option ((Nat → Int32))) (v18 : Int32) (u19 : (Nat → Int32)) : Option ((Nat → Int32)) :=
if x11 ≤ v18 then (
some (u19)
)
else (
ix v18 na <|
nm (upd (u19) v18.toNatClampNeg p1) fun (u24 : (Nat → Int32)) =>
nm (v18 + (1 : Int32)) fun (x25 : Int32) =>
rec x25 u24
)

def lf_J7_fill_53178_5 (fu : Nat) (p1 : Int32) (x11 : Int32) : Nat → Int32 → (Nat → Int32) → Option ((Nat → Int32)) := lp2 (lb_J7_fill_53178_5 fu p1 x11)
def f_J7_fill_53178 (fu : Nat) (na : Nat) (u_ar : (Nat → Int32)) (p1 : Int32) : Option ((Nat → Int32)) :=
nm (Int32.ofNat na) fun (x11 : Int32) =>
bd (lf_J7_fill_53178_5 fu p1 x11 fu ((0 : Int32)) u_ar) fun (z21 : (Nat → Int32)) =>
some (z21)

abbrev rm_J7_fill_53178 : Room := { frames := 0, cells := 0, slots := 0, locals := 0 }
set_option maxHeartbeats 4000000 in
set_option maxRecDepth 100000 in
theorem c_J7_fill_53178 (l : Launch) (D : va_G) (cT : Nat → ClassId) (g : Nat → Nat) (b : Nat) (na : Nat) (fu : Nat) (u_ar : (Nat → Int32)) (p1 : Int32) (o : (Nat → Int32)) (hf : f_J7_fill_53178 fu na u_ar p1 = some o) (sz : Nat) : Met l yJ7_fill_53178 wsJ7_fill_53178 rm_J7_fill_53178 (va_Pc [.ref (g b), .int p1] (PRE D cT sz (List.flatten [wA cT g b na u_ar]))) (QV D (List.flatten [wA cT g b na o]) (va_A (List.flatten [wA cT g b na u_ar]) sz)) 0 0 (va_A (List.flatten [wA cT g b na u_ar]) sz) := by
  refine Met.ofW (cc := cJ7_fill_53178) (maxL := 4) (ret := none) (by decide) rfl ?_
  intro p e s m args below meth c s₁ B0 hml hv
  obtain ⟨hav, hsz, hP, hK, hD, hN, hZ⟩ := hv
  have hx := B0.exec
  have hb := B0.bytes
  have hr := B0.returns
  have hts := atoms_spec (ws := wsJ7_fill_53178) B0.pre
  have hown : s.vm.findClass RJ7 = some m.cls := findClass_of_methodNamed B0.named
  have hlocks := B0.notSynchronized
  subst hsz
  have hD := hD.self (sz := s.heap.size)
  have hA : ∀ q : Nat, s.heap.size ≤ q → va_A (List.flatten [wA cT g b na u_ar]) s.heap.size q := fun q h => Or.inr h
  generalize va_A (List.flatten [wA cT g b na u_ar]) s.heap.size = A at hD hZ hA ⊢
  have hS : va_S A s.heap s.heap [] := va_S.rf
  have hl := lv_entry ([.ref (g b), .int p1]) (n := 4) (Nat.le_of_ble_eq_true rfl)
  rw [hav]
  rw [lg_entry_eq]
  generalize (lg_sl ([.ref (g b), .int p1]) ++ List.replicate (4 - (lg_sl ([.ref (g b), .int p1])).length) Slot.unset).toArray = ls at hl ⊢
  have hl : lv_has ls 4 [(0, .ref (g b)), (1, .int p1)] := hl
  rw [← hav]
  generalize hQ : MQ below _ _ _ _ _ _ = Q
  show W p l e rm_J7_fill_53178 s m args below meth c s.heap [] 0 0 Q (F0 m 0 ls [])
  unfold f_J7_fill_53178 at hf
  refine lv_iconst (v := 0) hx hb dJ7_fill_53178_0 (by decide) ?_
  refine lv_istore_n (lv' := [(2, .int ((0 : Int32))), (0, .ref (g b)), (1, .int p1)]) hx hb dJ7_fill_53178_1 rfl hl (by decide) rfl (fun ls hl => ?_)
  refine lv_aload_n hx hb dJ7_fill_53178_2 rfl (lv_at hl 1 rfl) ?_
  refine va_alen (v := Int32.ofNat na) hx hb hK hP 0 0 rfl rfl rfl dJ7_fill_53178_3 ?_
  refine lv_topi (fun x11 ex11 => ?_)
  replace hf := nm_i hf ex11
  refine lv_istore_n (lv' := [(3, .int x11), (2, .int ((0 : Int32))), (0, .ref (g b)), (1, .int p1)]) hx hb dJ7_fill_53178_4 rfl hl (by decide) rfl (fun ls hl => ?_)
  obtain ⟨z21, hz21, hf⟩ := bd_i hf
  have hL5 : ∀ (n : Nat) (v18 : Int32) (u19 : (Nat → Int32)) (z20 : (Nat → Int32)), lf_J7_fill_53178_5 fu p1 x11 n v18 u19 = some z20 → ∀ (H : Heap) (locs : List Loc) (ls : Array Slot), va_P D vwCl (List.flatten [wA cT g b na u19]) H → va_S A s.heap H locs → lv_has ls 4 [(0, .ref (g b)), (1, .int p1), (2, .int v18), (3, .int x11)] → (∀ (H : Heap) (locs : List Loc) (ls : Array Slot), va_P D vwCl (List.flatten [wA cT g b na z20]) H → va_S A s.heap H locs → lv_has ls 4 [] → W p l e rm_J7_fill_53178 s m args below meth c H locs 0 0 Q (F0 m 20 ls [])) → W p l e rm_J7_fill_53178 s m args below meth c H locs 0 0 Q (F0 m 5 ls []) := by
    refine lp2_ind (F := lb_J7_fill_53178_5 fu p1 x11) (fun rec ih v18 u19 z20 hf H locs ls hP hS hl kx => ?_)
    unfold lb_J7_fill_53178_5 at hf
    refine lv_iload_n hx hb dJ7_fill_53178_5 rfl (lv_at hl 2 rfl) ?_
    refine lv_iload_n hx hb dJ7_fill_53178_6 rfl (lv_at hl 3 rfl) ?_
    refine lv_icmp_ge (tgt := 20) hx hb dJ7_fill_53178_7 (by decide) (fun c22 => ?_) (fun c22 => ?_)
    · replace hf := it_t hf c22
      obtain rfl := Option.some.inj hf
      exact kx _ _ _ hP hS (lv_sub hl [] rfl)
    · replace hf := it_f hf c22
      refine lv_aload_n hx hb dJ7_fill_53178_10 rfl (lv_at hl 0 rfl) ?_
      refine lv_iload_n hx hb dJ7_fill_53178_11 rfl (lv_at hl 2 rfl) ?_
      refine lv_iload_n hx hb dJ7_fill_53178_12 rfl (lv_at hl 1 rfl) ?_
      obtain ⟨hi23, hf⟩ := ix_i hf
      refine va_iast hx hb hK hP (va_D_adr hD rfl) hS 0 0 rfl rfl hi23 dJ7_fill_53178_13 (fun H locs hP _ hS => ?_)
      obtain ⟨u24, eu24⟩ : ∃ z : (Nat → Int32), z = upd (u19) v18.toNatClampNeg p1 := ⟨_, rfl⟩
      replace hf := nm_i hf eu24
      have hP : va_P D vwCl (List.flatten [wA cT g b na u24]) H := by rw [eu24]; exact hP
      obtain ⟨x25, ex25⟩ : ∃ z : Int32, z = v18 + (1 : Int32) := ⟨_, rfl⟩
      replace hf := nm_i hf ex25
      refine lv_iinc (v := x25) (lv' := [(2, .int x25), (0, .ref (g b)), (1, .int p1), (3, .int x11)]) hx hb dJ7_fill_53178_14 hl (k := 2) rfl (by rw [ex25]; rfl) (by decide) rfl (fun ls hl => ?_)
      refine lv_goto (tgt := 5) hx hb dJ7_fill_53178_17 (by decide) ?_
      exact ih _ _ _ hf _ _ _ hP hS (lv_sub hl [1, 2, 0, 3] rfl) kx
  refine hL5 fu _ _ _ hz21 _ _ _ hP hS (lv_sub hl [2, 3, 1, 0] rfl) (fun H locs ls hP hS hl => ?_)
  obtain rfl := Option.some.inj hf
  subst hQ
  exact en_v hx hb hr hP hS hlocks dJ7_fill_53178_20
theorem iw_X1_makeNew_X1 : ∀ w ∈ u_ws RX1 TX1 9, w ∈ wsX1_makeNew := by decide +kernel
def f_X1_makeNew (fu : Nat) (u_st : TS) (p0 : Int32) : Option (TS) :=
nm (S_sl_ u_st p0) fun (u13 : TS) =>
nm (S_jb_ u13 ((0 : Int32))) fun (u14 : TS) =>
bd (f_J7_fill_53178 fu 60 (S_lv u14) ((0 : Int32))) fun (o15 : (Nat → Int32)) =>
nm (S_lv_ u14 o15) fun (u16 : TS) =>
bd (f_J7_fill_53178 fu 60 (S_fo u16) ((0 : Int32))) fun (o17 : (Nat → Int32)) =>
nm (S_fo_ u16 o17) fun (u18 : TS) =>
bd (f_J7_fill_53178 fu 60 (S_se u18) ((0 : Int32))) fun (o19 : (Nat → Int32)) =>
nm (S_se_ u18 o19) fun (u20 : TS) =>
bd (f_J7_fill_53178 fu 60 (S_li u20) ((0 : Int32))) fun (o21 : (Nat → Int32)) =>
nm (S_li_ u20 o21) fun (u22 : TS) =>
bd (f_J7_fill_53178 fu 7 (S_ac u22) ((0 : Int32))) fun (o23 : (Nat → Int32)) =>
nm (S_ac_ u22 o23) fun (u24 : TS) =>
some (u24)

abbrev rm_X1_makeNew : Room := { frames := 1, cells := 0, slots := 0, locals := 23 }
set_option maxHeartbeats 4000000 in
set_option maxRecDepth 100000 in
theorem c_X1_makeNew (l : Launch) (D : va_G) (cT : Nat → ClassId) (g : Nat → Nat) (b : Nat) (fu : Nat) (u_st : TS) (p0 : Int32) (o : TS) (hf : f_X1_makeNew fu u_st p0 = some o) (sz : Nat) : Met l yX1_makeNew wsX1_makeNew rm_X1_makeNew (va_Pc [.ref (g b), .int p0] (PRE D cT sz (List.flatten [wS cT g b u_st]))) (QV D (List.flatten [wS cT g b o]) (va_A (List.flatten [wS cT g b u_st]) sz)) 0 0 (va_A (List.flatten [wS cT g b u_st]) sz) := by
  refine Met.ofW (cc := cX1_makeNew) (maxL := 2) (ret := none) (by decide) rfl ?_
  intro p e s m args below meth c s₁ B0 hml hv
  obtain ⟨hav, hsz, hP, hK, hD, hN, hZ⟩ := hv
  have hx := B0.exec
  have hb := B0.bytes
  have hr := B0.returns
  have hts := atoms_spec (ws := wsX1_makeNew) B0.pre
  have hown : s.vm.findClass RX1 = some m.cls := findClass_of_methodNamed B0.named
  have hlocks := B0.notSynchronized
  subst hsz
  have hD := hD.self (sz := s.heap.size)
  have hA : ∀ q : Nat, s.heap.size ≤ q → va_A (List.flatten [wS cT g b u_st]) s.heap.size q := fun q h => Or.inr h
  generalize va_A (List.flatten [wS cT g b u_st]) s.heap.size = A at hD hZ hA ⊢
  have hS : va_S A s.heap s.heap [] := va_S.rf
  have hl := lv_entry ([.ref (g b), .int p0]) (n := 2) (Nat.le_of_ble_eq_true rfl)
  rw [hav]
  rw [lg_entry_eq]
  generalize (lg_sl ([.ref (g b), .int p0]) ++ List.replicate (2 - (lg_sl ([.ref (g b), .int p0])).length) Slot.unset).toArray = ls at hl ⊢
  have hl : lv_has ls 2 [(0, .ref (g b)), (1, .int p0)] := hl
  rw [← hav]
  generalize hQ : MQ below _ _ _ _ _ _ = Q
  show W p l e rm_X1_makeNew s m args below meth c s.heap [] 0 0 Q (F0 m 0 ls [])
  unfold f_X1_makeNew at hf
  refine lv_aload_n hx hb dX1_makeNew_0 rfl (lv_at hl 0 rfl) ?_
  refine lv_iload_n hx hb dX1_makeNew_1 rfl (lv_at hl 1 rfl) ?_
  refine va_put (ci := 1) (v := .int p0) (ty := .int) (C := RX1) (T := TX1) (N := 9) hx hb hts iw_X1_makeNew_X1 tyX1 tyX1_ok nmX1 hown hK hP (va_D_adr hD rfl) hS 0 rfl rfl 0 (by decide) (hts (.fieldLink RX1 9 "BallastTrack$State" "sleepers" "I") (List.mem_of_getElem? (i := 1) rfl)) (fun _ h9 => h9) rfl (by decide +kernel) rfl rfl (Nat.le_of_ble_eq_true rfl) dX1_makeNew_2 (fun H locs hP _ hS => ?_)
  obtain ⟨u13, eu13⟩ : ∃ z : TS, z = S_sl_ u_st p0 := ⟨_, rfl⟩
  replace hf := nm_i hf eu13
  have hP : va_P D vwCl (List.flatten [wS cT g b u13]) H := by rw [eu13]; exact hP
  refine lv_aload_n hx hb dX1_makeNew_5 rfl (lv_at hl 0 rfl) ?_
  refine lv_iconst (v := 0) hx hb dX1_makeNew_6 (by decide) ?_
  refine va_put (ci := 1) (v := .int ((0 : Int32))) (ty := .int) (C := RX1) (T := TX1) (N := 9) hx hb hts iw_X1_makeNew_X1 tyX1 tyX1_ok nmX1 hown hK hP (va_D_adr hD rfl) hS 0 rfl rfl 1 (by decide) (hts (.fieldLink RX1 15 "BallastTrack$State" "jobs" "I") (List.mem_of_getElem? (i := 2) rfl)) (fun _ h9 => h9) rfl (by decide +kernel) rfl rfl (Nat.le_of_ble_eq_true rfl) dX1_makeNew_7 (fun H locs hP _ hS => ?_)
  obtain ⟨u14, eu14⟩ : ∃ z : TS, z = S_jb_ u13 ((0 : Int32)) := ⟨_, rfl⟩
  replace hf := nm_i hf eu14
  have hP : va_P D vwCl (List.flatten [wS cT g b u14]) H := by rw [eu14]; exact hP
  refine lv_aload_n hx hb dX1_makeNew_10 rfl (lv_at hl 0 rfl) ?_
  refine va_get (ci := 1) (v := .ref (g (b + 2))) (C := RX1) (T := TX1) (N := 9) hx hb hts iw_X1_makeNew_X1 hown hK hP 0 rfl rfl 3 (by decide) (hts (.fieldLink RX1 22 "BallastTrack$State" "levels" "[I") (List.mem_of_getElem? (i := 3) rfl)) (fun _ h9 => h9) rfl dX1_makeNew_11 ?_
  refine lv_iconst (v := 0) hx hb dX1_makeNew_14 (by decide) ?_
  obtain ⟨o15, ho15, hf⟩ := bd_i hf
  have hP : va_P D vwCl (List.flatten [[((g b), .inr (1, [.int (S_sl u14), .int (S_jb u14), .ref (g (b + 1)), .ref (g (b + 2)), .ref (g (b + 3)), .ref (g (b + 4)), .ref (g (b + 5)), .ref (g (b + 6)), .ref (g (b + 7))]))], [((g (b + 1)), .inl (cT 0, 8, .inl (S_nu u14)))], wA cT g (b + 2) 60 (S_lv u14), [((g (b + 3)), .inl (cT 0, 60, .inl (S_fo u14)))], [((g (b + 4)), .inl (cT 0, 60, .inl (S_se u14)))], [((g (b + 5)), .inl (cT 0, 60, .inl (S_li u14)))], [((g (b + 6)), .inl (cT 0, 24, .inl (S_jr u14)))], [((g (b + 7)), .inl (cT 0, 7, .inl (S_ac u14)))]]) H := hP
  refine cl_v [2] [0, 1, 3, 4, 5, 6, 7] [[((g b), .inr (1, [.int (S_sl (S_lv_ u14 o15)), .int (S_jb (S_lv_ u14 o15)), .ref (g (b + 1)), .ref (g (b + 2)), .ref (g (b + 3)), .ref (g (b + 4)), .ref (g (b + 5)), .ref (g (b + 6)), .ref (g (b + 7))]))], [((g (b + 1)), .inl (cT 0, 8, .inl (S_nu (S_lv_ u14 o15))))], wA cT g (b + 2) 60 (S_lv (S_lv_ u14 o15)), [((g (b + 3)), .inl (cT 0, 60, .inl (S_fo (S_lv_ u14 o15))))], [((g (b + 4)), .inl (cT 0, 60, .inl (S_se (S_lv_ u14 o15))))], [((g (b + 5)), .inl (cT 0, 60, .inl (S_li (S_lv_ u14 o15))))], [((g (b + 6)), .inl (cT 0, 24, .inl (S_jr (S_lv_ u14 o15))))], [((g (b + 7)), .inl (cT 0, 7, .inl (S_ac (S_lv_ u14 o15))))]] hP (va_D_adr hD rfl) hA hS (va_runS (As := [.ref (g (b + 2)), .int ((0 : Int32))]) (rest := []) ⟨hx, hb, hml, hown, hts⟩ (c_J7_fill_53178 l D cT g (b + 2) 60 fu (S_lv u14) ((0 : Int32)) o15 ho15 _) (va_cwS 2 hts gX1_makeNew_J7_fill_53178 rfl rfl rfl (by decide +kernel) ⟨Nat.le_of_ble_eq_true rfl, Nat.le_of_ble_eq_true rfl⟩) ⟨PRE_blind, PRE_ok [2] (by decide) hP (va_D_adr hD rfl) hA hS hK hN hZ⟩ rfl rfl hl.1 rfl (lv_room (Nat.le_of_ble_eq_true rfl)) dX1_makeNew_15 ⟨Nat.le_of_ble_eq_true rfl, Nat.le_of_ble_eq_true rfl⟩) rfl 8 rfl (by decide) (by decide) (fun H locs hP hS => ?_)
  obtain ⟨u16, eu16⟩ : ∃ z : TS, z = S_lv_ u14 o15 := ⟨_, rfl⟩
  replace hf := nm_i hf eu16
  have hP : va_P D vwCl (List.flatten [wS cT g b u16]) H := by rw [eu16]; exact hP
  refine lv_aload_n hx hb dX1_makeNew_18 rfl (lv_at hl 0 rfl) ?_
  refine va_get (ci := 1) (v := .ref (g (b + 3))) (C := RX1) (T := TX1) (N := 9) hx hb hts iw_X1_makeNew_X1 hown hK hP 0 rfl rfl 4 (by decide) (hts (.fieldLink RX1 25 "BallastTrack$State" "foulings" "[I") (List.mem_of_getElem? (i := 4) rfl)) (fun _ h9 => h9) rfl dX1_makeNew_19 ?_
  refine lv_iconst (v := 0) hx hb dX1_makeNew_22 (by decide) ?_
  obtain ⟨o17, ho17, hf⟩ := bd_i hf
  have hP : va_P D vwCl (List.flatten [[((g b), .inr (1, [.int (S_sl u16), .int (S_jb u16), .ref (g (b + 1)), .ref (g (b + 2)), .ref (g (b + 3)), .ref (g (b + 4)), .ref (g (b + 5)), .ref (g (b + 6)), .ref (g (b + 7))]))], [((g (b + 1)), .inl (cT 0, 8, .inl (S_nu u16)))], [((g (b + 2)), .inl (cT 0, 60, .inl (S_lv u16)))], wA cT g (b + 3) 60 (S_fo u16), [((g (b + 4)), .inl (cT 0, 60, .inl (S_se u16)))], [((g (b + 5)), .inl (cT 0, 60, .inl (S_li u16)))], [((g (b + 6)), .inl (cT 0, 24, .inl (S_jr u16)))], [((g (b + 7)), .inl (cT 0, 7, .inl (S_ac u16)))]]) H := hP
  refine cl_v [3] [0, 1, 2, 4, 5, 6, 7] [[((g b), .inr (1, [.int (S_sl (S_fo_ u16 o17)), .int (S_jb (S_fo_ u16 o17)), .ref (g (b + 1)), .ref (g (b + 2)), .ref (g (b + 3)), .ref (g (b + 4)), .ref (g (b + 5)), .ref (g (b + 6)), .ref (g (b + 7))]))], [((g (b + 1)), .inl (cT 0, 8, .inl (S_nu (S_fo_ u16 o17))))], [((g (b + 2)), .inl (cT 0, 60, .inl (S_lv (S_fo_ u16 o17))))], wA cT g (b + 3) 60 (S_fo (S_fo_ u16 o17)), [((g (b + 4)), .inl (cT 0, 60, .inl (S_se (S_fo_ u16 o17))))], [((g (b + 5)), .inl (cT 0, 60, .inl (S_li (S_fo_ u16 o17))))], [((g (b + 6)), .inl (cT 0, 24, .inl (S_jr (S_fo_ u16 o17))))], [((g (b + 7)), .inl (cT 0, 7, .inl (S_ac (S_fo_ u16 o17))))]] hP (va_D_adr hD rfl) hA hS (va_runS (As := [.ref (g (b + 3)), .int ((0 : Int32))]) (rest := []) ⟨hx, hb, hml, hown, hts⟩ (c_J7_fill_53178 l D cT g (b + 3) 60 fu (S_fo u16) ((0 : Int32)) o17 ho17 _) (va_cwS 2 hts gX1_makeNew_J7_fill_53178 rfl rfl rfl (by decide +kernel) ⟨Nat.le_of_ble_eq_true rfl, Nat.le_of_ble_eq_true rfl⟩) ⟨PRE_blind, PRE_ok [3] (by decide) hP (va_D_adr hD rfl) hA hS hK hN hZ⟩ rfl rfl hl.1 rfl (lv_room (Nat.le_of_ble_eq_true rfl)) dX1_makeNew_23 ⟨Nat.le_of_ble_eq_true rfl, Nat.le_of_ble_eq_true rfl⟩) rfl 8 rfl (by decide) (by decide) (fun H locs hP hS => ?_)
  obtain ⟨u18, eu18⟩ : ∃ z : TS, z = S_fo_ u16 o17 := ⟨_, rfl⟩
  replace hf := nm_i hf eu18
  have hP : va_P D vwCl (List.flatten [wS cT g b u18]) H := by rw [eu18]; exact hP
  refine lv_aload_n hx hb dX1_makeNew_26 rfl (lv_at hl 0 rfl) ?_
  refine va_get (ci := 1) (v := .ref (g (b + 4))) (C := RX1) (T := TX1) (N := 9) hx hb hts iw_X1_makeNew_X1 hown hK hP 0 rfl rfl 5 (by decide) (hts (.fieldLink RX1 28 "BallastTrack$State" "settled" "[I") (List.mem_of_getElem? (i := 5) rfl)) (fun _ h9 => h9) rfl dX1_makeNew_27 ?_
  refine lv_iconst (v := 0) hx hb dX1_makeNew_30 (by decide) ?_
  obtain ⟨o19, ho19, hf⟩ := bd_i hf
  have hP : va_P D vwCl (List.flatten [[((g b), .inr (1, [.int (S_sl u18), .int (S_jb u18), .ref (g (b + 1)), .ref (g (b + 2)), .ref (g (b + 3)), .ref (g (b + 4)), .ref (g (b + 5)), .ref (g (b + 6)), .ref (g (b + 7))]))], [((g (b + 1)), .inl (cT 0, 8, .inl (S_nu u18)))], [((g (b + 2)), .inl (cT 0, 60, .inl (S_lv u18)))], [((g (b + 3)), .inl (cT 0, 60, .inl (S_fo u18)))], wA cT g (b + 4) 60 (S_se u18), [((g (b + 5)), .inl (cT 0, 60, .inl (S_li u18)))], [((g (b + 6)), .inl (cT 0, 24, .inl (S_jr u18)))], [((g (b + 7)), .inl (cT 0, 7, .inl (S_ac u18)))]]) H := hP
  refine cl_v [4] [0, 1, 2, 3, 5, 6, 7] [[((g b), .inr (1, [.int (S_sl (S_se_ u18 o19)), .int (S_jb (S_se_ u18 o19)), .ref (g (b + 1)), .ref (g (b + 2)), .ref (g (b + 3)), .ref (g (b + 4)), .ref (g (b + 5)), .ref (g (b + 6)), .ref (g (b + 7))]))], [((g (b + 1)), .inl (cT 0, 8, .inl (S_nu (S_se_ u18 o19))))], [((g (b + 2)), .inl (cT 0, 60, .inl (S_lv (S_se_ u18 o19))))], [((g (b + 3)), .inl (cT 0, 60, .inl (S_fo (S_se_ u18 o19))))], wA cT g (b + 4) 60 (S_se (S_se_ u18 o19)), [((g (b + 5)), .inl (cT 0, 60, .inl (S_li (S_se_ u18 o19))))], [((g (b + 6)), .inl (cT 0, 24, .inl (S_jr (S_se_ u18 o19))))], [((g (b + 7)), .inl (cT 0, 7, .inl (S_ac (S_se_ u18 o19))))]] hP (va_D_adr hD rfl) hA hS (va_runS (As := [.ref (g (b + 4)), .int ((0 : Int32))]) (rest := []) ⟨hx, hb, hml, hown, hts⟩ (c_J7_fill_53178 l D cT g (b + 4) 60 fu (S_se u18) ((0 : Int32)) o19 ho19 _) (va_cwS 2 hts gX1_makeNew_J7_fill_53178 rfl rfl rfl (by decide +kernel) ⟨Nat.le_of_ble_eq_true rfl, Nat.le_of_ble_eq_true rfl⟩) ⟨PRE_blind, PRE_ok [4] (by decide) hP (va_D_adr hD rfl) hA hS hK hN hZ⟩ rfl rfl hl.1 rfl (lv_room (Nat.le_of_ble_eq_true rfl)) dX1_makeNew_31 ⟨Nat.le_of_ble_eq_true rfl, Nat.le_of_ble_eq_true rfl⟩) rfl 8 rfl (by decide) (by decide) (fun H locs hP hS => ?_)
  obtain ⟨u20, eu20⟩ : ∃ z : TS, z = S_se_ u18 o19 := ⟨_, rfl⟩
  replace hf := nm_i hf eu20
  have hP : va_P D vwCl (List.flatten [wS cT g b u20]) H := by rw [eu20]; exact hP
  refine lv_aload_n hx hb dX1_makeNew_34 rfl (lv_at hl 0 rfl) ?_
  refine va_get (ci := 1) (v := .ref (g (b + 5))) (C := RX1) (T := TX1) (N := 9) hx hb hts iw_X1_makeNew_X1 hown hK hP 0 rfl rfl 6 (by decide) (hts (.fieldLink RX1 31 "BallastTrack$State" "lifted" "[I") (List.mem_of_getElem? (i := 6) rfl)) (fun _ h9 => h9) rfl dX1_makeNew_35 ?_
  refine lv_iconst (v := 0) hx hb dX1_makeNew_38 (by decide) ?_
  obtain ⟨o21, ho21, hf⟩ := bd_i hf
  have hP : va_P D vwCl (List.flatten [[((g b), .inr (1, [.int (S_sl u20), .int (S_jb u20), .ref (g (b + 1)), .ref (g (b + 2)), .ref (g (b + 3)), .ref (g (b + 4)), .ref (g (b + 5)), .ref (g (b + 6)), .ref (g (b + 7))]))], [((g (b + 1)), .inl (cT 0, 8, .inl (S_nu u20)))], [((g (b + 2)), .inl (cT 0, 60, .inl (S_lv u20)))], [((g (b + 3)), .inl (cT 0, 60, .inl (S_fo u20)))], [((g (b + 4)), .inl (cT 0, 60, .inl (S_se u20)))], wA cT g (b + 5) 60 (S_li u20), [((g (b + 6)), .inl (cT 0, 24, .inl (S_jr u20)))], [((g (b + 7)), .inl (cT 0, 7, .inl (S_ac u20)))]]) H := hP
  refine cl_v [5] [0, 1, 2, 3, 4, 6, 7] [[((g b), .inr (1, [.int (S_sl (S_li_ u20 o21)), .int (S_jb (S_li_ u20 o21)), .ref (g (b + 1)), .ref (g (b + 2)), .ref (g (b + 3)), .ref (g (b + 4)), .ref (g (b + 5)), .ref (g (b + 6)), .ref (g (b + 7))]))], [((g (b + 1)), .inl (cT 0, 8, .inl (S_nu (S_li_ u20 o21))))], [((g (b + 2)), .inl (cT 0, 60, .inl (S_lv (S_li_ u20 o21))))], [((g (b + 3)), .inl (cT 0, 60, .inl (S_fo (S_li_ u20 o21))))], [((g (b + 4)), .inl (cT 0, 60, .inl (S_se (S_li_ u20 o21))))], wA cT g (b + 5) 60 (S_li (S_li_ u20 o21)), [((g (b + 6)), .inl (cT 0, 24, .inl (S_jr (S_li_ u20 o21))))], [((g (b + 7)), .inl (cT 0, 7, .inl (S_ac (S_li_ u20 o21))))]] hP (va_D_adr hD rfl) hA hS (va_runS (As := [.ref (g (b + 5)), .int ((0 : Int32))]) (rest := []) ⟨hx, hb, hml, hown, hts⟩ (c_J7_fill_53178 l D cT g (b + 5) 60 fu (S_li u20) ((0 : Int32)) o21 ho21 _) (va_cwS 2 hts gX1_makeNew_J7_fill_53178 rfl rfl rfl (by decide +kernel) ⟨Nat.le_of_ble_eq_true rfl, Nat.le_of_ble_eq_true rfl⟩) ⟨PRE_blind, PRE_ok [5] (by decide) hP (va_D_adr hD rfl) hA hS hK hN hZ⟩ rfl rfl hl.1 rfl (lv_room (Nat.le_of_ble_eq_true rfl)) dX1_makeNew_39 ⟨Nat.le_of_ble_eq_true rfl, Nat.le_of_ble_eq_true rfl⟩) rfl 8 rfl (by decide) (by decide) (fun H locs hP hS => ?_)
  obtain ⟨u22, eu22⟩ : ∃ z : TS, z = S_li_ u20 o21 := ⟨_, rfl⟩
  replace hf := nm_i hf eu22
  have hP : va_P D vwCl (List.flatten [wS cT g b u22]) H := by rw [eu22]; exact hP
  refine lv_aload_n hx hb dX1_makeNew_42 rfl (lv_at hl 0 rfl) ?_
  refine va_get (ci := 1) (v := .ref (g (b + 7))) (C := RX1) (T := TX1) (N := 9) hx hb hts iw_X1_makeNew_X1 hown hK hP 0 rfl rfl 8 (by decide) (hts (.fieldLink RX1 37 "BallastTrack$State" "accounts" "[I") (List.mem_of_getElem? (i := 7) rfl)) (fun _ h9 => h9) rfl dX1_makeNew_43 ?_
  refine lv_iconst (v := 0) hx hb dX1_makeNew_46 (by decide) ?_
  obtain ⟨o23, ho23, hf⟩ := bd_i hf
  have hP : va_P D vwCl (List.flatten [[((g b), .inr (1, [.int (S_sl u22), .int (S_jb u22), .ref (g (b + 1)), .ref (g (b + 2)), .ref (g (b + 3)), .ref (g (b + 4)), .ref (g (b + 5)), .ref (g (b + 6)), .ref (g (b + 7))]))], [((g (b + 1)), .inl (cT 0, 8, .inl (S_nu u22)))], [((g (b + 2)), .inl (cT 0, 60, .inl (S_lv u22)))], [((g (b + 3)), .inl (cT 0, 60, .inl (S_fo u22)))], [((g (b + 4)), .inl (cT 0, 60, .inl (S_se u22)))], [((g (b + 5)), .inl (cT 0, 60, .inl (S_li u22)))], [((g (b + 6)), .inl (cT 0, 24, .inl (S_jr u22)))], wA cT g (b + 7) 7 (S_ac u22)]) H := hP
  refine cl_v [7] [0, 1, 2, 3, 4, 5, 6] [[((g b), .inr (1, [.int (S_sl (S_ac_ u22 o23)), .int (S_jb (S_ac_ u22 o23)), .ref (g (b + 1)), .ref (g (b + 2)), .ref (g (b + 3)), .ref (g (b + 4)), .ref (g (b + 5)), .ref (g (b + 6)), .ref (g (b + 7))]))], [((g (b + 1)), .inl (cT 0, 8, .inl (S_nu (S_ac_ u22 o23))))], [((g (b + 2)), .inl (cT 0, 60, .inl (S_lv (S_ac_ u22 o23))))], [((g (b + 3)), .inl (cT 0, 60, .inl (S_fo (S_ac_ u22 o23))))], [((g (b + 4)), .inl (cT 0, 60, .inl (S_se (S_ac_ u22 o23))))], [((g (b + 5)), .inl (cT 0, 60, .inl (S_li (S_ac_ u22 o23))))], [((g (b + 6)), .inl (cT 0, 24, .inl (S_jr (S_ac_ u22 o23))))], wA cT g (b + 7) 7 (S_ac (S_ac_ u22 o23))] hP (va_D_adr hD rfl) hA hS (va_runS (As := [.ref (g (b + 7)), .int ((0 : Int32))]) (rest := []) ⟨hx, hb, hml, hown, hts⟩ (c_J7_fill_53178 l D cT g (b + 7) 7 fu (S_ac u22) ((0 : Int32)) o23 ho23 _) (va_cwS 2 hts gX1_makeNew_J7_fill_53178 rfl rfl rfl (by decide +kernel) ⟨Nat.le_of_ble_eq_true rfl, Nat.le_of_ble_eq_true rfl⟩) ⟨PRE_blind, PRE_ok [7] (by decide) hP (va_D_adr hD rfl) hA hS hK hN hZ⟩ rfl rfl hl.1 rfl (lv_room (Nat.le_of_ble_eq_true rfl)) dX1_makeNew_47 ⟨Nat.le_of_ble_eq_true rfl, Nat.le_of_ble_eq_true rfl⟩) rfl 8 rfl (by decide) (by decide) (fun H locs hP hS => ?_)
  obtain ⟨u24, eu24⟩ : ∃ z : TS, z = S_ac_ u22 o23 := ⟨_, rfl⟩
  replace hf := nm_i hf eu24
  have hP : va_P D vwCl (List.flatten [wS cT g b u24]) H := by rw [eu24]; exact hP
  obtain rfl := Option.some.inj hf
  subst hQ
  exact en_v hx hb hr hP hS hlocks dX1_makeNew_50
def f_X4_isWithin (fu : Nat)  (p0 : Int32) (p1 : Int32) (p2 : Int32) : Option (Bool) :=
jn (some (false)
) fun K14_7 =>
if p0 < p1 then (
K14_7 
)
else (
if p2 < p0 then (
K14_7 
)
else (
some (true)
)
)

abbrev rm_X4_isWithin : Room := { frames := 0, cells := 0, slots := 0, locals := 0 }
set_option maxHeartbeats 4000000 in
set_option maxRecDepth 100000 in
theorem c_X4_isWithin (l : Launch) (D : va_G) (cT : Nat → ClassId) (g : Nat → Nat) (fu : Nat)  (p0 : Int32) (p1 : Int32) (p2 : Int32) (o : Bool) (hf : f_X4_isWithin fu  p0 p1 p2 = some o) (sz : Nat) : Met l yX4_isWithin wsX4_isWithin rm_X4_isWithin (va_Pc [.int p0, .int p1, .int p2] (PRE D cT sz (List.flatten []))) (QI D (bI o) (List.flatten []) (va_A (List.flatten []) sz)) 0 0 (va_A (List.flatten []) sz) := by
  refine Met.ofW (cc := cX4_isWithin) (maxL := 3) (ret := (some .boolean)) (by decide) rfl ?_
  intro p e s m args below meth c s₁ B0 hml hv
  obtain ⟨hav, hsz, hP, hK, hD, hN, hZ⟩ := hv
  have hx := B0.exec
  have hb := B0.bytes
  have hr := B0.returns
  have hts := atoms_spec (ws := wsX4_isWithin) B0.pre
  have hown : s.vm.findClass RX4 = some m.cls := findClass_of_methodNamed B0.named
  have hlocks := B0.notSynchronized
  subst hsz
  have hD := hD.self (sz := s.heap.size)
  have hA : ∀ q : Nat, s.heap.size ≤ q → va_A (List.flatten []) s.heap.size q := fun q h => Or.inr h
  generalize va_A (List.flatten []) s.heap.size = A at hD hZ hA ⊢
  have hS : va_S A s.heap s.heap [] := va_S.rf
  have hl := lv_entry ([.int p0, .int p1, .int p2]) (n := 3) (Nat.le_of_ble_eq_true rfl)
  rw [hav]
  rw [lg_entry_eq]
  generalize (lg_sl ([.int p0, .int p1, .int p2]) ++ List.replicate (3 - (lg_sl ([.int p0, .int p1, .int p2])).length) Slot.unset).toArray = ls at hl ⊢
  have hl : lv_has ls 3 [(0, .int p0), (1, .int p1), (2, .int p2)] := hl
  rw [← hav]
  generalize hQ : MQ below _ _ _ _ _ _ = Q
  show W p l e rm_X4_isWithin s m args below meth c s.heap [] 0 0 Q (F0 m 0 ls [])
  unfold f_X4_isWithin at hf
  refine lv_iload_n hx hb dX4_isWithin_0 rfl (lv_at hl 0 rfl) ?_
  refine lv_iload_n hx hb dX4_isWithin_1 rfl (lv_at hl 1 rfl) ?_
  obtain ⟨K14_7, eK14_7, hf⟩ := jn_i hf
  have hK14_7 : ∀  (H : Heap) (locs : List Loc) (ls : Array Slot), K14_7  = some o → va_P D vwCl (List.flatten []) H → va_S A s.heap H locs → lv_has ls 3 [] → W p l e rm_X4_isWithin s m args below meth c H locs 0 0 Q (F0 m 14 ls []) := by
    intro  H locs ls hf hP hS hl
    rw [eK14_7] at hf
    refine lv_iconst (v := 0) hx hb dX4_isWithin_14 (by decide) ?_
    obtain rfl := Option.some.inj hf
    subst hQ
    exact en_z (v := false) hx hb hr hP hS hlocks dX4_isWithin_15
  clear eK14_7
  refine lv_icmp_lt (tgt := 14) hx hb dX4_isWithin_2 (by decide) (fun c8 => ?_) (fun c8 => ?_)
  · replace hf := it_t hf c8
    exact hK14_7  _ _ _ hf hP hS (lv_sub hl [] rfl)
  · replace hf := it_f hf c8
    refine lv_iload_n hx hb dX4_isWithin_5 rfl (lv_at hl 0 rfl) ?_
    refine lv_iload_n hx hb dX4_isWithin_6 rfl (lv_at hl 2 rfl) ?_
    refine lv_icmp_gt (tgt := 14) hx hb dX4_isWithin_7 (by decide) (fun c9 => ?_) (fun c9 => ?_)
    · replace hf := it_t hf c9
      exact hK14_7  _ _ _ hf hP hS (lv_sub hl [] rfl)
    · replace hf := it_f hf c9
      refine lv_iconst (v := 1) hx hb dX4_isWithin_10 (by decide) ?_
      refine lv_goto (tgt := 15) hx hb dX4_isWithin_11 (by decide) ?_
      obtain rfl := Option.some.inj hf
      subst hQ
      exact en_z (v := true) hx hb hr hP hS hlocks dX4_isWithin_15
theorem iw_X1_has_X1 : ∀ w ∈ u_ws RX1 TX1 9, w ∈ wsX1_has := by decide +kernel
def f_X1_has (fu : Nat) (u_st : TS) (p0 : Int32) : Option (Bool) :=
nm (S_sl u_st) fun (x4 : Int32) =>
nm (x4 - (1 : Int32)) fun (x5 : Int32) =>
bd (f_X4_isWithin fu  p0 ((0 : Int32)) x5) fun (o6 : Bool) =>
some (o6)

abbrev rm_X1_has : Room := { frames := 1, cells := 0, slots := 0, locals := 22 }
set_option maxHeartbeats 4000000 in
set_option maxRecDepth 100000 in
theorem c_X1_has (l : Launch) (D : va_G) (cT : Nat → ClassId) (g : Nat → Nat) (b : Nat) (fu : Nat) (u_st : TS) (p0 : Int32) (o : Bool) (hf : f_X1_has fu u_st p0 = some o) (sz : Nat) : Met l yX1_has wsX1_has rm_X1_has (va_Pc [.ref (g b), .int p0] (PRE D cT sz (List.flatten [wS cT g b u_st]))) (QI D (bI o) (List.flatten [wS cT g b u_st]) (va_A (List.flatten [wS cT g b u_st]) sz)) 0 0 (va_A (List.flatten [wS cT g b u_st]) sz) := by
  refine Met.ofW (cc := cX1_has) (maxL := 2) (ret := (some .boolean)) (by decide) rfl ?_
  intro p e s m args below meth c s₁ B0 hml hv
  obtain ⟨hav, hsz, hP, hK, hD, hN, hZ⟩ := hv
  have hx := B0.exec
  have hb := B0.bytes
  have hr := B0.returns
  have hts := atoms_spec (ws := wsX1_has) B0.pre
  have hown : s.vm.findClass RX1 = some m.cls := findClass_of_methodNamed B0.named
  have hlocks := B0.notSynchronized
  subst hsz
  have hD := hD.self (sz := s.heap.size)
  have hA : ∀ q : Nat, s.heap.size ≤ q → va_A (List.flatten [wS cT g b u_st]) s.heap.size q := fun q h => Or.inr h
  generalize va_A (List.flatten [wS cT g b u_st]) s.heap.size = A at hD hZ hA ⊢
  have hS : va_S A s.heap s.heap [] := va_S.rf
  have hl := lv_entry ([.ref (g b), .int p0]) (n := 2) (Nat.le_of_ble_eq_true rfl)
  rw [hav]
  rw [lg_entry_eq]
  generalize (lg_sl ([.ref (g b), .int p0]) ++ List.replicate (2 - (lg_sl ([.ref (g b), .int p0])).length) Slot.unset).toArray = ls at hl ⊢
  have hl : lv_has ls 2 [(0, .ref (g b)), (1, .int p0)] := hl
  rw [← hav]
  generalize hQ : MQ below _ _ _ _ _ _ = Q
  show W p l e rm_X1_has s m args below meth c s.heap [] 0 0 Q (F0 m 0 ls [])
  unfold f_X1_has at hf
  refine lv_iload_n hx hb dX1_has_0 rfl (lv_at hl 1 rfl) ?_
  refine lv_iconst (v := 0) hx hb dX1_has_1 (by decide) ?_
  refine lv_aload_n hx hb dX1_has_2 rfl (lv_at hl 0 rfl) ?_
  refine va_get (ci := 1) (v := .int (S_sl u_st)) (C := RX1) (T := TX1) (N := 9) hx hb hts iw_X1_has_X1 hown hK hP 0 rfl rfl 0 (by decide) (hts (.fieldLink RX1 9 "BallastTrack$State" "sleepers" "I") (List.mem_of_getElem? (i := 1) rfl)) (fun _ h9 => h9) rfl dX1_has_3 ?_
  refine lv_topi (fun x4 ex4 => ?_)
  replace hf := nm_i hf ex4
  refine lv_iconst (v := 1) hx hb dX1_has_6 (by decide) ?_
  refine lv_isub hx hb dX1_has_7 ?_
  refine lv_topi (fun x5 ex5 => ?_)
  replace hf := nm_i hf ex5
  obtain ⟨o6, ho6, hf⟩ := bd_i hf
  refine cl_i [] [0] [wS cT g b u_st] hP (va_D_adr hD rfl) hA hS (va_runSN (As := [.int p0, .int ((0 : Int32)), .int x5]) (rest := []) ⟨hx, hb, hml, hown, hts⟩ (c_X4_isWithin l D cT g  fu  p0 ((0 : Int32)) x5 o6 ho6 _) ⟨va_cnB 3 hts gX1_has_X4_isWithin_n55 rfl rfl rfl hN.2.1 (hts (.initialized RX4) (List.mem_of_getElem? (i := 3) rfl)) (by decide +kernel) ⟨Nat.le_of_ble_eq_true rfl, Nat.le_of_ble_eq_true rfl⟩, (hts (.static yX4_isWithin) (List.mem_of_getElem? (i := 2) rfl)), trivial⟩ ⟨PRE_blind, PRE_ok [] (by decide) hP (va_D_adr hD rfl) hA hS hK hN hZ⟩ rfl rfl hl.1 rfl (lv_room (Nat.le_of_ble_eq_true rfl)) dX1_has_8 ⟨Nat.le_of_ble_eq_true rfl, Nat.le_of_ble_eq_true rfl⟩) rfl 1 rfl (by decide) (by decide) (fun H locs hP hS => ?_)
  obtain rfl := Option.some.inj hf
  subst hQ
  exact en_z hx hb hr hP hS hlocks dX1_has_11
theorem iw_X1_putLevel_X1 : ∀ w ∈ u_ws RX1 TX1 9, w ∈ wsX1_putLevel := by decide +kernel
def f_X1_putLevel (fu : Nat) (u_st : TS) (p0 : Int32) (p1 : Int32) : Option (TS) :=
ix ((6 : Int32)) 7 <|
nm ((S_ac u_st) ((6 : Int32)).toNatClampNeg) fun (x12 : Int32) =>
ix p0 60 <|
nm ((S_lv u_st) p0.toNatClampNeg) fun (x14 : Int32) =>
nm (p1 - x14) fun (x15 : Int32) =>
nm (x12 + x15) fun (x16 : Int32) =>
ix ((6 : Int32)) 7 <|
nm (S_ac_ u_st (upd (S_ac u_st) ((6 : Int32)).toNatClampNeg x16)) fun (u18 : TS) =>
ix p0 60 <|
nm (S_lv_ u18 (upd (S_lv u18) p0.toNatClampNeg p1)) fun (u20 : TS) =>
some (u20)

abbrev rm_X1_putLevel : Room := { frames := 0, cells := 0, slots := 0, locals := 0 }
set_option maxHeartbeats 4000000 in
set_option maxRecDepth 100000 in
theorem c_X1_putLevel (l : Launch) (D : va_G) (cT : Nat → ClassId) (g : Nat → Nat) (b : Nat) (fu : Nat) (u_st : TS) (p0 : Int32) (p1 : Int32) (o : TS) (hf : f_X1_putLevel fu u_st p0 p1 = some o) (sz : Nat) : Met l yX1_putLevel wsX1_putLevel rm_X1_putLevel (va_Pc [.ref (g b), .int p0, .int p1] (PRE D cT sz (List.flatten [wS cT g b u_st]))) (QV D (List.flatten [wS cT g b o]) (va_A (List.flatten [wS cT g b u_st]) sz)) 0 0 (va_A (List.flatten [wS cT g b u_st]) sz) := by
  refine Met.ofW (cc := cX1_putLevel) (maxL := 3) (ret := none) (by decide) rfl ?_
  intro p e s m args below meth c s₁ B0 hml hv
  obtain ⟨hav, hsz, hP, hK, hD, hN, hZ⟩ := hv
  have hx := B0.exec
  have hb := B0.bytes
  have hr := B0.returns
  have hts := atoms_spec (ws := wsX1_putLevel) B0.pre
  have hown : s.vm.findClass RX1 = some m.cls := findClass_of_methodNamed B0.named
  have hlocks := B0.notSynchronized
  subst hsz
  have hD := hD.self (sz := s.heap.size)
  have hA : ∀ q : Nat, s.heap.size ≤ q → va_A (List.flatten [wS cT g b u_st]) s.heap.size q := fun q h => Or.inr h
  generalize va_A (List.flatten [wS cT g b u_st]) s.heap.size = A at hD hZ hA ⊢
  have hS : va_S A s.heap s.heap [] := va_S.rf
  have hl := lv_entry ([.ref (g b), .int p0, .int p1]) (n := 3) (Nat.le_of_ble_eq_true rfl)
  rw [hav]
  rw [lg_entry_eq]
  generalize (lg_sl ([.ref (g b), .int p0, .int p1]) ++ List.replicate (3 - (lg_sl ([.ref (g b), .int p0, .int p1])).length) Slot.unset).toArray = ls at hl ⊢
  have hl : lv_has ls 3 [(0, .ref (g b)), (1, .int p0), (2, .int p1)] := hl
  rw [← hav]
  generalize hQ : MQ below _ _ _ _ _ _ = Q
  show W p l e rm_X1_putLevel s m args below meth c s.heap [] 0 0 Q (F0 m 0 ls [])
  unfold f_X1_putLevel at hf
  refine lv_aload_n hx hb dX1_putLevel_0 rfl (lv_at hl 0 rfl) ?_
  refine va_get (ci := 1) (v := .ref (g (b + 7))) (C := RX1) (T := TX1) (N := 9) hx hb hts iw_X1_putLevel_X1 hown hK hP 0 rfl rfl 8 (by decide) (hts (.fieldLink RX1 37 "BallastTrack$State" "accounts" "[I") (List.mem_of_getElem? (i := 1) rfl)) (fun _ h9 => h9) rfl dX1_putLevel_1 ?_
  refine lv_bipush (v := 6) hx hb dX1_putLevel_4 (by decide) ?_
  refine lv_dup2_11 hx hb dX1_putLevel_6 rfl rfl ?_
  obtain ⟨hi11, hf⟩ := ix_i hf
  refine va_iald hx hb hK hP 7 0 rfl rfl hi11 dX1_putLevel_7 ?_
  refine lv_topi (fun x12 ex12 => ?_)
  replace hf := nm_i hf ex12
  refine lv_iload_n hx hb dX1_putLevel_8 rfl (lv_at hl 2 rfl) ?_
  refine lv_aload_n hx hb dX1_putLevel_9 rfl (lv_at hl 0 rfl) ?_
  refine va_get (ci := 1) (v := .ref (g (b + 2))) (C := RX1) (T := TX1) (N := 9) hx hb hts iw_X1_putLevel_X1 hown hK hP 0 rfl rfl 3 (by decide) (hts (.fieldLink RX1 22 "BallastTrack$State" "levels" "[I") (List.mem_of_getElem? (i := 2) rfl)) (fun _ h9 => h9) rfl dX1_putLevel_10 ?_
  refine lv_iload_n hx hb dX1_putLevel_13 rfl (lv_at hl 1 rfl) ?_
  obtain ⟨hi13, hf⟩ := ix_i hf
  refine va_iald hx hb hK hP 2 0 rfl rfl hi13 dX1_putLevel_14 ?_
  refine lv_topi (fun x14 ex14 => ?_)
  replace hf := nm_i hf ex14
  refine lv_isub hx hb dX1_putLevel_15 ?_
  refine lv_topi (fun x15 ex15 => ?_)
  replace hf := nm_i hf ex15
  refine lv_iadd hx hb dX1_putLevel_16 ?_
  refine lv_topi (fun x16 ex16 => ?_)
  replace hf := nm_i hf ex16
  obtain ⟨hi17, hf⟩ := ix_i hf
  refine va_iast hx hb hK hP (va_D_adr hD rfl) hS 7 0 rfl rfl hi17 dX1_putLevel_17 (fun H locs hP _ hS => ?_)
  obtain ⟨u18, eu18⟩ : ∃ z : TS, z = S_ac_ u_st (upd (S_ac u_st) ((6 : Int32)).toNatClampNeg x16) := ⟨_, rfl⟩
  replace hf := nm_i hf eu18
  have hP : va_P D vwCl (List.flatten [wS cT g b u18]) H := by rw [eu18]; exact hP
  refine lv_aload_n hx hb dX1_putLevel_18 rfl (lv_at hl 0 rfl) ?_
  refine va_get (ci := 1) (v := .ref (g (b + 2))) (C := RX1) (T := TX1) (N := 9) hx hb hts iw_X1_putLevel_X1 hown hK hP 0 rfl rfl 3 (by decide) (hts (.fieldLink RX1 22 "BallastTrack$State" "levels" "[I") (List.mem_of_getElem? (i := 2) rfl)) (fun _ h9 => h9) rfl dX1_putLevel_19 ?_
  refine lv_iload_n hx hb dX1_putLevel_22 rfl (lv_at hl 1 rfl) ?_
  refine lv_iload_n hx hb dX1_putLevel_23 rfl (lv_at hl 2 rfl) ?_
  obtain ⟨hi19, hf⟩ := ix_i hf
  refine va_iast hx hb hK hP (va_D_adr hD rfl) hS 2 0 rfl rfl hi19 dX1_putLevel_24 (fun H locs hP _ hS => ?_)
  obtain ⟨u20, eu20⟩ : ∃ z : TS, z = S_lv_ u18 (upd (S_lv u18) p0.toNatClampNeg p1) := ⟨_, rfl⟩
  replace hf := nm_i hf eu20
  have hP : va_P D vwCl (List.flatten [wS cT g b u20]) H := by rw [eu20]; exact hP
  obtain rfl := Option.some.inj hf
  subst hQ
  exact en_v hx hb hr hP hS hlocks dX1_putLevel_25
theorem iw_X1_foul_X1 : ∀ w ∈ u_ws RX1 TX1 9, w ∈ wsX1_foul := by decide +kernel
def f_X1_foul (fu : Nat) (u_st : TS) (p0 : Int32) (p1 : Int32) : Option (TS) :=
ix p0 60 <|
nm ((S_fo u_st) p0.toNatClampNeg) fun (x8 : Int32) =>
nm (x8 + p1) fun (x9 : Int32) =>
nm (if x9 < (100 : Int32) then x9 else (100 : Int32)) fun (x10 : Int32) =>
ix p0 60 <|
nm (S_fo_ u_st (upd (S_fo u_st) p0.toNatClampNeg x10)) fun (u12 : TS) =>
some (u12)

abbrev rm_X1_foul : Room := { frames := 1, cells := 0, slots := 0, locals := 40 }
set_option maxHeartbeats 4000000 in
set_option maxRecDepth 100000 in
theorem c_X1_foul (l : Launch) (D : va_G) (cT : Nat → ClassId) (g : Nat → Nat) (b : Nat) (fu : Nat) (u_st : TS) (p0 : Int32) (p1 : Int32) (o : TS) (hf : f_X1_foul fu u_st p0 p1 = some o) (sz : Nat) : Met l yX1_foul wsX1_foul rm_X1_foul (va_Pc [.ref (g b), .int p0, .int p1] (PRE D cT sz (List.flatten [wS cT g b u_st]))) (QV D (List.flatten [wS cT g b o]) (va_A (List.flatten [wS cT g b u_st]) sz)) 0 0 (va_A (List.flatten [wS cT g b u_st]) sz) := by
  refine Met.ofW (cc := cX1_foul) (maxL := 3) (ret := none) (by decide) rfl ?_
  intro p e s m args below meth c s₁ B0 hml hv
  obtain ⟨hav, hsz, hP, hK, hD, hN, hZ⟩ := hv
  have hx := B0.exec
  have hb := B0.bytes
  have hr := B0.returns
  have hts := atoms_spec (ws := wsX1_foul) B0.pre
  have hown : s.vm.findClass RX1 = some m.cls := findClass_of_methodNamed B0.named
  have hlocks := B0.notSynchronized
  subst hsz
  have hD := hD.self (sz := s.heap.size)
  have hA : ∀ q : Nat, s.heap.size ≤ q → va_A (List.flatten [wS cT g b u_st]) s.heap.size q := fun q h => Or.inr h
  generalize va_A (List.flatten [wS cT g b u_st]) s.heap.size = A at hD hZ hA ⊢
  have hS : va_S A s.heap s.heap [] := va_S.rf
  have hl := lv_entry ([.ref (g b), .int p0, .int p1]) (n := 3) (Nat.le_of_ble_eq_true rfl)
  rw [hav]
  rw [lg_entry_eq]
  generalize (lg_sl ([.ref (g b), .int p0, .int p1]) ++ List.replicate (3 - (lg_sl ([.ref (g b), .int p0, .int p1])).length) Slot.unset).toArray = ls at hl ⊢
  have hl : lv_has ls 3 [(0, .ref (g b)), (1, .int p0), (2, .int p1)] := hl
  rw [← hav]
  generalize hQ : MQ below _ _ _ _ _ _ = Q
  show W p l e rm_X1_foul s m args below meth c s.heap [] 0 0 Q (F0 m 0 ls [])
  unfold f_X1_foul at hf
  refine lv_aload_n hx hb dX1_foul_0 rfl (lv_at hl 0 rfl) ?_
  refine va_get (ci := 1) (v := .ref (g (b + 3))) (C := RX1) (T := TX1) (N := 9) hx hb hts iw_X1_foul_X1 hown hK hP 0 rfl rfl 4 (by decide) (hts (.fieldLink RX1 25 "BallastTrack$State" "foulings" "[I") (List.mem_of_getElem? (i := 1) rfl)) (fun _ h9 => h9) rfl dX1_foul_1 ?_
  refine lv_iload_n hx hb dX1_foul_4 rfl (lv_at hl 1 rfl) ?_
  refine lv_bipush (v := 100) hx hb dX1_foul_5 (by decide) ?_
  refine lv_aload_n hx hb dX1_foul_7 rfl (lv_at hl 0 rfl) ?_
  refine va_get (ci := 1) (v := .ref (g (b + 3))) (C := RX1) (T := TX1) (N := 9) hx hb hts iw_X1_foul_X1 hown hK hP 0 rfl rfl 4 (by decide) (hts (.fieldLink RX1 25 "BallastTrack$State" "foulings" "[I") (List.mem_of_getElem? (i := 1) rfl)) (fun _ h9 => h9) rfl dX1_foul_8 ?_
  refine lv_iload_n hx hb dX1_foul_11 rfl (lv_at hl 1 rfl) ?_
  obtain ⟨hi7, hf⟩ := ix_i hf
  refine va_iald hx hb hK hP 3 0 rfl rfl hi7 dX1_foul_12 ?_
  refine lv_topi (fun x8 ex8 => ?_)
  replace hf := nm_i hf ex8
  refine lv_iload_n hx hb dX1_foul_13 rfl (lv_at hl 2 rfl) ?_
  refine lv_iadd hx hb dX1_foul_14 ?_
  refine lv_topi (fun x9 ex9 => ?_)
  replace hf := nm_i hf ex9
  refine va_mmin hx hb (by rw [hml]; exact hl.1.symm) hown (hts (.methodLink RX1 59 Lib.Math.min.name) (List.mem_of_getElem? (i := 2) rfl)) (hts (.static Lib.Math.min.name) (List.mem_of_getElem? (i := 3) rfl)) (hts (.initialized "java/lang/Math") (List.mem_of_getElem? (i := 4) rfl)) (hts (.code Lib.Math.min.name Lib.Math.min.code 2 (some .int)) (List.mem_of_getElem? (i := 5) rfl)) (Nat.le_of_ble_eq_true rfl) (Nat.le_of_ble_eq_true rfl) (Nat.le_of_ble_eq_true rfl) (Nat.le_of_ble_eq_true rfl) dX1_foul_15 ?_
  refine lv_topi (fun x10 ex10 => ?_)
  replace hf := nm_i hf ex10
  obtain ⟨hi11, hf⟩ := ix_i hf
  refine va_iast hx hb hK hP (va_D_adr hD rfl) hS 3 0 rfl rfl hi11 dX1_foul_18 (fun H locs hP _ hS => ?_)
  obtain ⟨u12, eu12⟩ : ∃ z : TS, z = S_fo_ u_st (upd (S_fo u_st) p0.toNatClampNeg x10) := ⟨_, rfl⟩
  replace hf := nm_i hf eu12
  have hP : va_P D vwCl (List.flatten [wS cT g b u12]) H := by rw [eu12]; exact hP
  obtain rfl := Option.some.inj hf
  subst hQ
  exact en_v hx hb hr hP hS hlocks dX1_foul_19
theorem iw_X1_settle_X1 : ∀ w ∈ u_ws RX1 TX1 9, w ∈ wsX1_settle := by decide +kernel
def f_X1_settle (fu : Nat) (u_st : TS) (p0 : Int32) (p1 : Int32) : Option (TS) :=
ix p0 60 <|
nm ((S_lv u_st) p0.toNatClampNeg) fun (x21 : Int32) =>
nm (x21 - (-9999 : Int32)) fun (x22 : Int32) =>
nm (if x22 < p1 then x22 else p1) fun (x23 : Int32) =>
ix p0 60 <|
nm ((S_lv u_st) p0.toNatClampNeg) fun (x25 : Int32) =>
nm (x25 - x23) fun (x26 : Int32) =>
ix p0 60 <|
nm (S_lv_ u_st (upd (S_lv u_st) p0.toNatClampNeg x26)) fun (u28 : TS) =>
ix p0 60 <|
nm ((S_se u28) p0.toNatClampNeg) fun (x30 : Int32) =>
nm (x30 + x23) fun (x31 : Int32) =>
ix p0 60 <|
nm (S_se_ u28 (upd (S_se u28) p0.toNatClampNeg x31)) fun (u33 : TS) =>
ix ((0 : Int32)) 7 <|
nm ((S_ac u33) ((0 : Int32)).toNatClampNeg) fun (x35 : Int32) =>
nm (x35 + x23) fun (x36 : Int32) =>
ix ((0 : Int32)) 7 <|
nm (S_ac_ u33 (upd (S_ac u33) ((0 : Int32)).toNatClampNeg x36)) fun (u38 : TS) =>
some (u38)

abbrev rm_X1_settle : Room := { frames := 1, cells := 0, slots := 0, locals := 40 }
set_option maxHeartbeats 4000000 in
set_option maxRecDepth 100000 in
theorem c_X1_settle (l : Launch) (D : va_G) (cT : Nat → ClassId) (g : Nat → Nat) (b : Nat) (fu : Nat) (u_st : TS) (p0 : Int32) (p1 : Int32) (o : TS) (hf : f_X1_settle fu u_st p0 p1 = some o) (sz : Nat) : Met l yX1_settle wsX1_settle rm_X1_settle (va_Pc [.ref (g b), .int p0, .int p1] (PRE D cT sz (List.flatten [wS cT g b u_st]))) (QV D (List.flatten [wS cT g b o]) (va_A (List.flatten [wS cT g b u_st]) sz)) 0 0 (va_A (List.flatten [wS cT g b u_st]) sz) := by
  refine Met.ofW (cc := cX1_settle) (maxL := 4) (ret := none) (by decide) rfl ?_
  intro p e s m args below meth c s₁ B0 hml hv
  obtain ⟨hav, hsz, hP, hK, hD, hN, hZ⟩ := hv
  have hx := B0.exec
  have hb := B0.bytes
  have hr := B0.returns
  have hts := atoms_spec (ws := wsX1_settle) B0.pre
  have hown : s.vm.findClass RX1 = some m.cls := findClass_of_methodNamed B0.named
  have hlocks := B0.notSynchronized
  subst hsz
  have hD := hD.self (sz := s.heap.size)
  have hA : ∀ q : Nat, s.heap.size ≤ q → va_A (List.flatten [wS cT g b u_st]) s.heap.size q := fun q h => Or.inr h
  generalize va_A (List.flatten [wS cT g b u_st]) s.heap.size = A at hD hZ hA ⊢
  have hS : va_S A s.heap s.heap [] := va_S.rf
  have hl := lv_entry ([.ref (g b), .int p0, .int p1]) (n := 4) (Nat.le_of_ble_eq_true rfl)
  rw [hav]
  rw [lg_entry_eq]
  generalize (lg_sl ([.ref (g b), .int p0, .int p1]) ++ List.replicate (4 - (lg_sl ([.ref (g b), .int p0, .int p1])).length) Slot.unset).toArray = ls at hl ⊢
  have hl : lv_has ls 4 [(0, .ref (g b)), (1, .int p0), (2, .int p1)] := hl
  rw [← hav]
  generalize hQ : MQ below _ _ _ _ _ _ = Q
  show W p l e rm_X1_settle s m args below meth c s.heap [] 0 0 Q (F0 m 0 ls [])
  unfold f_X1_settle at hf
  refine lv_iload_n hx hb dX1_settle_0 rfl (lv_at hl 2 rfl) ?_
  refine lv_aload_n hx hb dX1_settle_1 rfl (lv_at hl 0 rfl) ?_
  refine va_get (ci := 1) (v := .ref (g (b + 2))) (C := RX1) (T := TX1) (N := 9) hx hb hts iw_X1_settle_X1 hown hK hP 0 rfl rfl 3 (by decide) (hts (.fieldLink RX1 22 "BallastTrack$State" "levels" "[I") (List.mem_of_getElem? (i := 1) rfl)) (fun _ h9 => h9) rfl dX1_settle_2 ?_
  refine lv_iload_n hx hb dX1_settle_5 rfl (lv_at hl 1 rfl) ?_
  obtain ⟨hi20, hf⟩ := ix_i hf
  refine va_iald hx hb hK hP 2 0 rfl rfl hi20 dX1_settle_6 ?_
  refine lv_topi (fun x21 ex21 => ?_)
  replace hf := nm_i hf ex21
  refine lv_sipush (v := -9999) hx hb dX1_settle_7 (by decide) ?_
  refine lv_isub hx hb dX1_settle_10 ?_
  refine lv_topi (fun x22 ex22 => ?_)
  replace hf := nm_i hf ex22
  refine va_mmin hx hb (by rw [hml]; exact hl.1.symm) hown (hts (.methodLink RX1 59 Lib.Math.min.name) (List.mem_of_getElem? (i := 2) rfl)) (hts (.static Lib.Math.min.name) (List.mem_of_getElem? (i := 3) rfl)) (hts (.initialized "java/lang/Math") (List.mem_of_getElem? (i := 4) rfl)) (hts (.code Lib.Math.min.name Lib.Math.min.code 2 (some .int)) (List.mem_of_getElem? (i := 5) rfl)) (Nat.le_of_ble_eq_true rfl) (Nat.le_of_ble_eq_true rfl) (Nat.le_of_ble_eq_true rfl) (Nat.le_of_ble_eq_true rfl) dX1_settle_11 ?_
  refine lv_topi (fun x23 ex23 => ?_)
  replace hf := nm_i hf ex23
  refine lv_istore_n (lv' := [(3, .int x23), (0, .ref (g b)), (1, .int p0), (2, .int p1)]) hx hb dX1_settle_14 rfl hl (by decide) rfl (fun ls hl => ?_)
  refine lv_aload_n hx hb dX1_settle_15 rfl (lv_at hl 1 rfl) ?_
  refine va_get (ci := 1) (v := .ref (g (b + 2))) (C := RX1) (T := TX1) (N := 9) hx hb hts iw_X1_settle_X1 hown hK hP 0 rfl rfl 3 (by decide) (hts (.fieldLink RX1 22 "BallastTrack$State" "levels" "[I") (List.mem_of_getElem? (i := 1) rfl)) (fun _ h9 => h9) rfl dX1_settle_16 ?_
  refine lv_iload_n hx hb dX1_settle_19 rfl (lv_at hl 2 rfl) ?_
  refine lv_dup2_11 hx hb dX1_settle_20 rfl rfl ?_
  obtain ⟨hi24, hf⟩ := ix_i hf
  refine va_iald hx hb hK hP 2 0 rfl rfl hi24 dX1_settle_21 ?_
  refine lv_topi (fun x25 ex25 => ?_)
  replace hf := nm_i hf ex25
  refine lv_iload_n hx hb dX1_settle_22 rfl (lv_at hl 0 rfl) ?_
  refine lv_isub hx hb dX1_settle_23 ?_
  refine lv_topi (fun x26 ex26 => ?_)
  replace hf := nm_i hf ex26
  obtain ⟨hi27, hf⟩ := ix_i hf
  refine va_iast hx hb hK hP (va_D_adr hD rfl) hS 2 0 rfl rfl hi27 dX1_settle_24 (fun H locs hP _ hS => ?_)
  obtain ⟨u28, eu28⟩ : ∃ z : TS, z = S_lv_ u_st (upd (S_lv u_st) p0.toNatClampNeg x26) := ⟨_, rfl⟩
  replace hf := nm_i hf eu28
  have hP : va_P D vwCl (List.flatten [wS cT g b u28]) H := by rw [eu28]; exact hP
  refine lv_aload_n hx hb dX1_settle_25 rfl (lv_at hl 1 rfl) ?_
  refine va_get (ci := 1) (v := .ref (g (b + 4))) (C := RX1) (T := TX1) (N := 9) hx hb hts iw_X1_settle_X1 hown hK hP 0 rfl rfl 5 (by decide) (hts (.fieldLink RX1 28 "BallastTrack$State" "settled" "[I") (List.mem_of_getElem? (i := 6) rfl)) (fun _ h9 => h9) rfl dX1_settle_26 ?_
  refine lv_iload_n hx hb dX1_settle_29 rfl (lv_at hl 2 rfl) ?_
  refine lv_dup2_11 hx hb dX1_settle_30 rfl rfl ?_
  obtain ⟨hi29, hf⟩ := ix_i hf
  refine va_iald hx hb hK hP 4 0 rfl rfl hi29 dX1_settle_31 ?_
  refine lv_topi (fun x30 ex30 => ?_)
  replace hf := nm_i hf ex30
  refine lv_iload_n hx hb dX1_settle_32 rfl (lv_at hl 0 rfl) ?_
  refine lv_iadd hx hb dX1_settle_33 ?_
  refine lv_topi (fun x31 ex31 => ?_)
  replace hf := nm_i hf ex31
  obtain ⟨hi32, hf⟩ := ix_i hf
  refine va_iast hx hb hK hP (va_D_adr hD rfl) hS 4 0 rfl rfl hi32 dX1_settle_34 (fun H locs hP _ hS => ?_)
  obtain ⟨u33, eu33⟩ : ∃ z : TS, z = S_se_ u28 (upd (S_se u28) p0.toNatClampNeg x31) := ⟨_, rfl⟩
  replace hf := nm_i hf eu33
  have hP : va_P D vwCl (List.flatten [wS cT g b u33]) H := by rw [eu33]; exact hP
  refine lv_aload_n hx hb dX1_settle_35 rfl (lv_at hl 1 rfl) ?_
  refine va_get (ci := 1) (v := .ref (g (b + 7))) (C := RX1) (T := TX1) (N := 9) hx hb hts iw_X1_settle_X1 hown hK hP 0 rfl rfl 8 (by decide) (hts (.fieldLink RX1 37 "BallastTrack$State" "accounts" "[I") (List.mem_of_getElem? (i := 7) rfl)) (fun _ h9 => h9) rfl dX1_settle_36 ?_
  refine lv_iconst (v := 0) hx hb dX1_settle_39 (by decide) ?_
  refine lv_dup2_11 hx hb dX1_settle_40 rfl rfl ?_
  obtain ⟨hi34, hf⟩ := ix_i hf
  refine va_iald hx hb hK hP 7 0 rfl rfl hi34 dX1_settle_41 ?_
  refine lv_topi (fun x35 ex35 => ?_)
  replace hf := nm_i hf ex35
  refine lv_iload_n hx hb dX1_settle_42 rfl (lv_at hl 0 rfl) ?_
  refine lv_iadd hx hb dX1_settle_43 ?_
  refine lv_topi (fun x36 ex36 => ?_)
  replace hf := nm_i hf ex36
  obtain ⟨hi37, hf⟩ := ix_i hf
  refine va_iast hx hb hK hP (va_D_adr hD rfl) hS 7 0 rfl rfl hi37 dX1_settle_44 (fun H locs hP _ hS => ?_)
  obtain ⟨u38, eu38⟩ : ∃ z : TS, z = S_ac_ u33 (upd (S_ac u33) ((0 : Int32)).toNatClampNeg x36) := ⟨_, rfl⟩
  replace hf := nm_i hf eu38
  have hP : va_P D vwCl (List.flatten [wS cT g b u38]) H := by rw [eu38]; exact hP
  obtain rfl := Option.some.inj hf
  subst hQ
  exact en_v hx hb hr hP hS hlocks dX1_settle_45
theorem iw_X1_raise_X1 : ∀ w ∈ u_ws RX1 TX1 9, w ∈ wsX1_raise := by decide +kernel
def f_X1_raise (fu : Nat) (u_st : TS) (p0 : Int32) (p1 : Int32) : Option (TS) :=
ix p0 60 <|
nm ((S_lv u_st) p0.toNatClampNeg) fun (x18 : Int32) =>
nm (x18 + p1) fun (x19 : Int32) =>
ix p0 60 <|
nm (S_lv_ u_st (upd (S_lv u_st) p0.toNatClampNeg x19)) fun (u21 : TS) =>
ix p0 60 <|
nm ((S_li u21) p0.toNatClampNeg) fun (x23 : Int32) =>
nm (x23 + p1) fun (x24 : Int32) =>
ix p0 60 <|
nm (S_li_ u21 (upd (S_li u21) p0.toNatClampNeg x24)) fun (u26 : TS) =>
ix ((1 : Int32)) 7 <|
nm ((S_ac u26) ((1 : Int32)).toNatClampNeg) fun (x28 : Int32) =>
nm (x28 + p1) fun (x29 : Int32) =>
ix ((1 : Int32)) 7 <|
nm (S_ac_ u26 (upd (S_ac u26) ((1 : Int32)).toNatClampNeg x29)) fun (u31 : TS) =>
bd (f_X1_foul fu u31 p0 ((3 : Int32))) fun (o32 : TS) =>
some (o32)

abbrev rm_X1_raise : Room := { frames := 2, cells := 0, slots := 0, locals := 62 }
set_option maxHeartbeats 4000000 in
set_option maxRecDepth 100000 in
theorem c_X1_raise (l : Launch) (D : va_G) (cT : Nat → ClassId) (g : Nat → Nat) (b : Nat) (fu : Nat) (u_st : TS) (p0 : Int32) (p1 : Int32) (o : TS) (hf : f_X1_raise fu u_st p0 p1 = some o) (sz : Nat) : Met l yX1_raise wsX1_raise rm_X1_raise (va_Pc [.ref (g b), .int p0, .int p1] (PRE D cT sz (List.flatten [wS cT g b u_st]))) (QV D (List.flatten [wS cT g b o]) (va_A (List.flatten [wS cT g b u_st]) sz)) 0 0 (va_A (List.flatten [wS cT g b u_st]) sz) := by
  refine Met.ofW (cc := cX1_raise) (maxL := 3) (ret := none) (by decide) rfl ?_
  intro p e s m args below meth c s₁ B0 hml hv
  obtain ⟨hav, hsz, hP, hK, hD, hN, hZ⟩ := hv
  have hx := B0.exec
  have hb := B0.bytes
  have hr := B0.returns
  have hts := atoms_spec (ws := wsX1_raise) B0.pre
  have hown : s.vm.findClass RX1 = some m.cls := findClass_of_methodNamed B0.named
  have hlocks := B0.notSynchronized
  subst hsz
  have hD := hD.self (sz := s.heap.size)
  have hA : ∀ q : Nat, s.heap.size ≤ q → va_A (List.flatten [wS cT g b u_st]) s.heap.size q := fun q h => Or.inr h
  generalize va_A (List.flatten [wS cT g b u_st]) s.heap.size = A at hD hZ hA ⊢
  have hS : va_S A s.heap s.heap [] := va_S.rf
  have hl := lv_entry ([.ref (g b), .int p0, .int p1]) (n := 3) (Nat.le_of_ble_eq_true rfl)
  rw [hav]
  rw [lg_entry_eq]
  generalize (lg_sl ([.ref (g b), .int p0, .int p1]) ++ List.replicate (3 - (lg_sl ([.ref (g b), .int p0, .int p1])).length) Slot.unset).toArray = ls at hl ⊢
  have hl : lv_has ls 3 [(0, .ref (g b)), (1, .int p0), (2, .int p1)] := hl
  rw [← hav]
  generalize hQ : MQ below _ _ _ _ _ _ = Q
  show W p l e rm_X1_raise s m args below meth c s.heap [] 0 0 Q (F0 m 0 ls [])
  unfold f_X1_raise at hf
  refine lv_aload_n hx hb dX1_raise_0 rfl (lv_at hl 0 rfl) ?_
  refine va_get (ci := 1) (v := .ref (g (b + 2))) (C := RX1) (T := TX1) (N := 9) hx hb hts iw_X1_raise_X1 hown hK hP 0 rfl rfl 3 (by decide) (hts (.fieldLink RX1 22 "BallastTrack$State" "levels" "[I") (List.mem_of_getElem? (i := 1) rfl)) (fun _ h9 => h9) rfl dX1_raise_1 ?_
  refine lv_iload_n hx hb dX1_raise_4 rfl (lv_at hl 1 rfl) ?_
  refine lv_dup2_11 hx hb dX1_raise_5 rfl rfl ?_
  obtain ⟨hi17, hf⟩ := ix_i hf
  refine va_iald hx hb hK hP 2 0 rfl rfl hi17 dX1_raise_6 ?_
  refine lv_topi (fun x18 ex18 => ?_)
  replace hf := nm_i hf ex18
  refine lv_iload_n hx hb dX1_raise_7 rfl (lv_at hl 2 rfl) ?_
  refine lv_iadd hx hb dX1_raise_8 ?_
  refine lv_topi (fun x19 ex19 => ?_)
  replace hf := nm_i hf ex19
  obtain ⟨hi20, hf⟩ := ix_i hf
  refine va_iast hx hb hK hP (va_D_adr hD rfl) hS 2 0 rfl rfl hi20 dX1_raise_9 (fun H locs hP _ hS => ?_)
  obtain ⟨u21, eu21⟩ : ∃ z : TS, z = S_lv_ u_st (upd (S_lv u_st) p0.toNatClampNeg x19) := ⟨_, rfl⟩
  replace hf := nm_i hf eu21
  have hP : va_P D vwCl (List.flatten [wS cT g b u21]) H := by rw [eu21]; exact hP
  refine lv_aload_n hx hb dX1_raise_10 rfl (lv_at hl 0 rfl) ?_
  refine va_get (ci := 1) (v := .ref (g (b + 5))) (C := RX1) (T := TX1) (N := 9) hx hb hts iw_X1_raise_X1 hown hK hP 0 rfl rfl 6 (by decide) (hts (.fieldLink RX1 31 "BallastTrack$State" "lifted" "[I") (List.mem_of_getElem? (i := 2) rfl)) (fun _ h9 => h9) rfl dX1_raise_11 ?_
  refine lv_iload_n hx hb dX1_raise_14 rfl (lv_at hl 1 rfl) ?_
  refine lv_dup2_11 hx hb dX1_raise_15 rfl rfl ?_
  obtain ⟨hi22, hf⟩ := ix_i hf
  refine va_iald hx hb hK hP 5 0 rfl rfl hi22 dX1_raise_16 ?_
  refine lv_topi (fun x23 ex23 => ?_)
  replace hf := nm_i hf ex23
  refine lv_iload_n hx hb dX1_raise_17 rfl (lv_at hl 2 rfl) ?_
  refine lv_iadd hx hb dX1_raise_18 ?_
  refine lv_topi (fun x24 ex24 => ?_)
  replace hf := nm_i hf ex24
  obtain ⟨hi25, hf⟩ := ix_i hf
  refine va_iast hx hb hK hP (va_D_adr hD rfl) hS 5 0 rfl rfl hi25 dX1_raise_19 (fun H locs hP _ hS => ?_)
  obtain ⟨u26, eu26⟩ : ∃ z : TS, z = S_li_ u21 (upd (S_li u21) p0.toNatClampNeg x24) := ⟨_, rfl⟩
  replace hf := nm_i hf eu26
  have hP : va_P D vwCl (List.flatten [wS cT g b u26]) H := by rw [eu26]; exact hP
  refine lv_aload_n hx hb dX1_raise_20 rfl (lv_at hl 0 rfl) ?_
  refine va_get (ci := 1) (v := .ref (g (b + 7))) (C := RX1) (T := TX1) (N := 9) hx hb hts iw_X1_raise_X1 hown hK hP 0 rfl rfl 8 (by decide) (hts (.fieldLink RX1 37 "BallastTrack$State" "accounts" "[I") (List.mem_of_getElem? (i := 3) rfl)) (fun _ h9 => h9) rfl dX1_raise_21 ?_
  refine lv_iconst (v := 1) hx hb dX1_raise_24 (by decide) ?_
  refine lv_dup2_11 hx hb dX1_raise_25 rfl rfl ?_
  obtain ⟨hi27, hf⟩ := ix_i hf
  refine va_iald hx hb hK hP 7 0 rfl rfl hi27 dX1_raise_26 ?_
  refine lv_topi (fun x28 ex28 => ?_)
  replace hf := nm_i hf ex28
  refine lv_iload_n hx hb dX1_raise_27 rfl (lv_at hl 2 rfl) ?_
  refine lv_iadd hx hb dX1_raise_28 ?_
  refine lv_topi (fun x29 ex29 => ?_)
  replace hf := nm_i hf ex29
  obtain ⟨hi30, hf⟩ := ix_i hf
  refine va_iast hx hb hK hP (va_D_adr hD rfl) hS 7 0 rfl rfl hi30 dX1_raise_29 (fun H locs hP _ hS => ?_)
  obtain ⟨u31, eu31⟩ : ∃ z : TS, z = S_ac_ u26 (upd (S_ac u26) ((1 : Int32)).toNatClampNeg x29) := ⟨_, rfl⟩
  replace hf := nm_i hf eu31
  have hP : va_P D vwCl (List.flatten [wS cT g b u31]) H := by rw [eu31]; exact hP
  refine lv_aload_n hx hb dX1_raise_30 rfl (lv_at hl 0 rfl) ?_
  refine lv_iload_n hx hb dX1_raise_31 rfl (lv_at hl 1 rfl) ?_
  refine lv_iconst (v := 3) hx hb dX1_raise_32 (by decide) ?_
  obtain ⟨o32, ho32, hf⟩ := bd_i hf
  refine cl_v [0] [] [wS cT g b o32] hP (va_D_adr hD rfl) hA hS (va_runV (As := [.int p0, .int ((3 : Int32))]) (rest := []) ⟨hx, hb, hml, hown, hts⟩ (c_X1_foul l D cT g b fu u31 p0 ((3 : Int32)) o32 ho32 _) (cwV 2 hts gX1_raise_X1_foul rfl rfl rfl (by decide +kernel) ⟨Nat.le_of_ble_eq_true rfl, Nat.le_of_ble_eq_true rfl⟩) ⟨PRE_blind, va_recv hK hP (ci := 1) (q0 := 0) rfl rfl, PRE_ok [0] (by decide) hP (va_D_adr hD rfl) hA hS hK hN hZ⟩ rfl rfl hl.1 rfl (lv_room (Nat.le_of_ble_eq_true rfl)) dX1_raise_33 ⟨Nat.le_of_ble_eq_true rfl, Nat.le_of_ble_eq_true rfl⟩) rfl 1 rfl (by decide) (by decide) (fun H locs hP hS => ?_)
  obtain rfl := Option.some.inj hf
  subst hQ
  exact en_v hx hb hr hP hS hlocks dX1_raise_36
theorem iw_X1_liftOf_X1 : ∀ w ∈ u_ws RX1 TX1 9, w ∈ wsX1_liftOf := by decide +kernel
def f_X1_liftOf (fu : Nat) (u_st : TS) (p0 : Int32) (p1 : Int32) : Option (Int32) :=
ix p0 60 <|
nm ((S_lv u_st) p0.toNatClampNeg) fun (x11 : Int32) =>
nm (p1 - x11) fun (x12 : Int32) =>
ix ((6 : Int32)) 8 <|
nm ((S_nu u_st) ((6 : Int32)).toNatClampNeg) fun (x14 : Int32) =>
nm (if x14 < x12 then x14 else x12) fun (x15 : Int32) =>
ix ((7 : Int32)) 8 <|
nm ((S_nu u_st) ((7 : Int32)).toNatClampNeg) fun (x17 : Int32) =>
if x17 ≤ x15 then (
some (x15)
)
else (
some ((0 : Int32))
)

abbrev rm_X1_liftOf : Room := { frames := 1, cells := 0, slots := 0, locals := 40 }
set_option maxHeartbeats 4000000 in
set_option maxRecDepth 100000 in
theorem c_X1_liftOf (l : Launch) (D : va_G) (cT : Nat → ClassId) (g : Nat → Nat) (b : Nat) (fu : Nat) (u_st : TS) (p0 : Int32) (p1 : Int32) (o : Int32) (hf : f_X1_liftOf fu u_st p0 p1 = some o) (sz : Nat) : Met l yX1_liftOf wsX1_liftOf rm_X1_liftOf (va_Pc [.ref (g b), .int p0, .int p1] (PRE D cT sz (List.flatten [wS cT g b u_st]))) (QI D o (List.flatten [wS cT g b u_st]) (va_A (List.flatten [wS cT g b u_st]) sz)) 0 0 (va_A (List.flatten [wS cT g b u_st]) sz) := by
  refine Met.ofW (cc := cX1_liftOf) (maxL := 4) (ret := (some .int)) (by decide) rfl ?_
  intro p e s m args below meth c s₁ B0 hml hv
  obtain ⟨hav, hsz, hP, hK, hD, hN, hZ⟩ := hv
  have hx := B0.exec
  have hb := B0.bytes
  have hr := B0.returns
  have hts := atoms_spec (ws := wsX1_liftOf) B0.pre
  have hown : s.vm.findClass RX1 = some m.cls := findClass_of_methodNamed B0.named
  have hlocks := B0.notSynchronized
  subst hsz
  have hD := hD.self (sz := s.heap.size)
  have hA : ∀ q : Nat, s.heap.size ≤ q → va_A (List.flatten [wS cT g b u_st]) s.heap.size q := fun q h => Or.inr h
  generalize va_A (List.flatten [wS cT g b u_st]) s.heap.size = A at hD hZ hA ⊢
  have hS : va_S A s.heap s.heap [] := va_S.rf
  have hl := lv_entry ([.ref (g b), .int p0, .int p1]) (n := 4) (Nat.le_of_ble_eq_true rfl)
  rw [hav]
  rw [lg_entry_eq]
  generalize (lg_sl ([.ref (g b), .int p0, .int p1]) ++ List.replicate (4 - (lg_sl ([.ref (g b), .int p0, .int p1])).length) Slot.unset).toArray = ls at hl ⊢
  have hl : lv_has ls 4 [(0, .ref (g b)), (1, .int p0), (2, .int p1)] := hl
  rw [← hav]
  generalize hQ : MQ below _ _ _ _ _ _ = Q
  show W p l e rm_X1_liftOf s m args below meth c s.heap [] 0 0 Q (F0 m 0 ls [])
  unfold f_X1_liftOf at hf
  refine lv_iload_n hx hb dX1_liftOf_0 rfl (lv_at hl 2 rfl) ?_
  refine lv_aload_n hx hb dX1_liftOf_1 rfl (lv_at hl 0 rfl) ?_
  refine va_get (ci := 1) (v := .ref (g (b + 2))) (C := RX1) (T := TX1) (N := 9) hx hb hts iw_X1_liftOf_X1 hown hK hP 0 rfl rfl 3 (by decide) (hts (.fieldLink RX1 22 "BallastTrack$State" "levels" "[I") (List.mem_of_getElem? (i := 1) rfl)) (fun _ h9 => h9) rfl dX1_liftOf_2 ?_
  refine lv_iload_n hx hb dX1_liftOf_5 rfl (lv_at hl 1 rfl) ?_
  obtain ⟨hi10, hf⟩ := ix_i hf
  refine va_iald hx hb hK hP 2 0 rfl rfl hi10 dX1_liftOf_6 ?_
  refine lv_topi (fun x11 ex11 => ?_)
  replace hf := nm_i hf ex11
  refine lv_isub hx hb dX1_liftOf_7 ?_
  refine lv_topi (fun x12 ex12 => ?_)
  replace hf := nm_i hf ex12
  refine lv_aload_n hx hb dX1_liftOf_8 rfl (lv_at hl 0 rfl) ?_
  refine va_get (ci := 1) (v := .ref (g (b + 1))) (C := RX1) (T := TX1) (N := 9) hx hb hts iw_X1_liftOf_X1 hown hK hP 0 rfl rfl 2 (by decide) (hts (.fieldLink RX1 18 "BallastTrack$State" "numbers" "[I") (List.mem_of_getElem? (i := 2) rfl)) (fun _ h9 => h9) rfl dX1_liftOf_9 ?_
  refine lv_bipush (v := 6) hx hb dX1_liftOf_12 (by decide) ?_
  obtain ⟨hi13, hf⟩ := ix_i hf
  refine va_iald hx hb hK hP 1 0 rfl rfl hi13 dX1_liftOf_14 ?_
  refine lv_topi (fun x14 ex14 => ?_)
  replace hf := nm_i hf ex14
  refine va_mmin hx hb (by rw [hml]; exact hl.1.symm) hown (hts (.methodLink RX1 59 Lib.Math.min.name) (List.mem_of_getElem? (i := 3) rfl)) (hts (.static Lib.Math.min.name) (List.mem_of_getElem? (i := 4) rfl)) (hts (.initialized "java/lang/Math") (List.mem_of_getElem? (i := 5) rfl)) (hts (.code Lib.Math.min.name Lib.Math.min.code 2 (some .int)) (List.mem_of_getElem? (i := 6) rfl)) (Nat.le_of_ble_eq_true rfl) (Nat.le_of_ble_eq_true rfl) (Nat.le_of_ble_eq_true rfl) (Nat.le_of_ble_eq_true rfl) dX1_liftOf_15 ?_
  refine lv_topi (fun x15 ex15 => ?_)
  replace hf := nm_i hf ex15
  refine lv_istore_n (lv' := [(3, .int x15), (0, .ref (g b)), (1, .int p0), (2, .int p1)]) hx hb dX1_liftOf_18 rfl hl (by decide) rfl (fun ls hl => ?_)
  refine lv_iload_n hx hb dX1_liftOf_19 rfl (lv_at hl 0 rfl) ?_
  refine lv_aload_n hx hb dX1_liftOf_20 rfl (lv_at hl 1 rfl) ?_
  refine va_get (ci := 1) (v := .ref (g (b + 1))) (C := RX1) (T := TX1) (N := 9) hx hb hts iw_X1_liftOf_X1 hown hK hP 0 rfl rfl 2 (by decide) (hts (.fieldLink RX1 18 "BallastTrack$State" "numbers" "[I") (List.mem_of_getElem? (i := 2) rfl)) (fun _ h9 => h9) rfl dX1_liftOf_21 ?_
  refine lv_bipush (v := 7) hx hb dX1_liftOf_24 (by decide) ?_
  obtain ⟨hi16, hf⟩ := ix_i hf
  refine va_iald hx hb hK hP 1 0 rfl rfl hi16 dX1_liftOf_26 ?_
  refine lv_topi (fun x17 ex17 => ?_)
  replace hf := nm_i hf ex17
  refine lv_icmp_ge (tgt := 34) hx hb dX1_liftOf_27 (by decide) (fun c18 => ?_) (fun c18 => ?_)
  · replace hf := it_t hf c18
    refine lv_iload_n hx hb dX1_liftOf_34 rfl (lv_at hl 0 rfl) ?_
    obtain rfl := Option.some.inj hf
    subst hQ
    exact en_i hx hb hr hP hS hlocks dX1_liftOf_35
  · replace hf := it_f hf c18
    refine lv_iconst (v := 0) hx hb dX1_liftOf_30 (by decide) ?_
    refine lv_goto (tgt := 35) hx hb dX1_liftOf_31 (by decide) ?_
    obtain rfl := Option.some.inj hf
    subst hQ
    exact en_i hx hb hr hP hS hlocks dX1_liftOf_35
theorem iw_X1_jobValue_X1 : ∀ w ∈ u_ws RX1 TX1 9, w ∈ wsX1_jobValue := by decide +kernel
def f_X1_jobValue (fu : Nat) (u_st : TS) (p0 : Int32) (p1 : Int32) : Option (Int32) :=
nm (p0 * (4 : Int32)) fun (x5 : Int32) =>
nm (x5 + p1) fun (x6 : Int32) =>
ix x6 24 <|
nm ((S_jr u_st) x6.toNatClampNeg) fun (x8 : Int32) =>
some (x8)

abbrev rm_X1_jobValue : Room := { frames := 0, cells := 0, slots := 0, locals := 0 }
set_option maxHeartbeats 4000000 in
set_option maxRecDepth 100000 in
theorem c_X1_jobValue (l : Launch) (D : va_G) (cT : Nat → ClassId) (g : Nat → Nat) (b : Nat) (fu : Nat) (u_st : TS) (p0 : Int32) (p1 : Int32) (o : Int32) (hf : f_X1_jobValue fu u_st p0 p1 = some o) (sz : Nat) : Met l yX1_jobValue wsX1_jobValue rm_X1_jobValue (va_Pc [.ref (g b), .int p0, .int p1] (PRE D cT sz (List.flatten [wS cT g b u_st]))) (QI D o (List.flatten [wS cT g b u_st]) (va_A (List.flatten [wS cT g b u_st]) sz)) 0 0 (va_A (List.flatten [wS cT g b u_st]) sz) := by
  refine Met.ofW (cc := cX1_jobValue) (maxL := 3) (ret := (some .int)) (by decide) rfl ?_
  intro p e s m args below meth c s₁ B0 hml hv
  obtain ⟨hav, hsz, hP, hK, hD, hN, hZ⟩ := hv
  have hx := B0.exec
  have hb := B0.bytes
  have hr := B0.returns
  have hts := atoms_spec (ws := wsX1_jobValue) B0.pre
  have hown : s.vm.findClass RX1 = some m.cls := findClass_of_methodNamed B0.named
  have hlocks := B0.notSynchronized
  subst hsz
  have hD := hD.self (sz := s.heap.size)
  have hA : ∀ q : Nat, s.heap.size ≤ q → va_A (List.flatten [wS cT g b u_st]) s.heap.size q := fun q h => Or.inr h
  generalize va_A (List.flatten [wS cT g b u_st]) s.heap.size = A at hD hZ hA ⊢
  have hS : va_S A s.heap s.heap [] := va_S.rf
  have hl := lv_entry ([.ref (g b), .int p0, .int p1]) (n := 3) (Nat.le_of_ble_eq_true rfl)
  rw [hav]
  rw [lg_entry_eq]
  generalize (lg_sl ([.ref (g b), .int p0, .int p1]) ++ List.replicate (3 - (lg_sl ([.ref (g b), .int p0, .int p1])).length) Slot.unset).toArray = ls at hl ⊢
  have hl : lv_has ls 3 [(0, .ref (g b)), (1, .int p0), (2, .int p1)] := hl
  rw [← hav]
  generalize hQ : MQ below _ _ _ _ _ _ = Q
  show W p l e rm_X1_jobValue s m args below meth c s.heap [] 0 0 Q (F0 m 0 ls [])
  unfold f_X1_jobValue at hf
  refine lv_aload_n hx hb dX1_jobValue_0 rfl (lv_at hl 0 rfl) ?_
  refine va_get (ci := 1) (v := .ref (g (b + 6))) (C := RX1) (T := TX1) (N := 9) hx hb hts iw_X1_jobValue_X1 hown hK hP 0 rfl rfl 7 (by decide) (hts (.fieldLink RX1 34 "BallastTrack$State" "jobRows" "[I") (List.mem_of_getElem? (i := 1) rfl)) (fun _ h9 => h9) rfl dX1_jobValue_1 ?_
  refine lv_iload_n hx hb dX1_jobValue_4 rfl (lv_at hl 1 rfl) ?_
  refine lv_iconst (v := 4) hx hb dX1_jobValue_5 (by decide) ?_
  refine lv_imul hx hb dX1_jobValue_6 ?_
  refine lv_topi (fun x5 ex5 => ?_)
  replace hf := nm_i hf ex5
  refine lv_iload_n hx hb dX1_jobValue_7 rfl (lv_at hl 2 rfl) ?_
  refine lv_iadd hx hb dX1_jobValue_8 ?_
  refine lv_topi (fun x6 ex6 => ?_)
  replace hf := nm_i hf ex6
  obtain ⟨hi7, hf⟩ := ix_i hf
  refine va_iald hx hb hK hP 6 0 rfl rfl hi7 dX1_jobValue_9 ?_
  refine lv_topi (fun x8 ex8 => ?_)
  replace hf := nm_i hf ex8
  obtain rfl := Option.some.inj hf
  subst hQ
  exact en_i hx hb hr hP hS hlocks dX1_jobValue_10
end
