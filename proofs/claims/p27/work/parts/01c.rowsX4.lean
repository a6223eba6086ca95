set_option maxRecDepth 20000 in
theorem ggX4_init_X1_init : GoodIn wsX4_init wsX1_init := goodIn_r _ [27, 28, 2, 3, 29, 30, 31, 32, 33, 34, 35, 36, 37, 38, 39, 40, 41, 42, 71, 72, 73, 74, 75, 76, 77, 78, 79] (by decide +kernel) (by decide +kernel)
set_option maxRecDepth 20000 in
theorem gX4_init_X1_init : GoodIn wsX4_init (wsX1_init) := ggX4_init_X1_init
set_option maxRecDepth 20000 in
theorem ggX4_init_X2_init : GoodIn wsX4_init wsX2_init := goodIn_r _ [45, 46, 2, 3, 31, 47, 48, 23, 49, 50, 51, 52, 53, 54, 88, 89, 90, 91, 92, 93, 94, 95] (by decide +kernel) (by decide +kernel)
set_option maxRecDepth 20000 in
theorem gX4_init_X2_init : GoodIn wsX4_init (wsX2_init) := ggX4_init_X2_init
set_option maxRecDepth 20000 in
theorem ggX4_init_X0_init : GoodIn wsX4_init wsX0_init := goodIn_r _ [57, 58, 2, 3, 59, 60, 61, 62, 5, 6, 63, 26, 27, 28, 29, 30, 31, 32, 33, 34, 35, 36, 37, 38, 39, 40, 41, 42, 96, 97, 98, 71, 72, 73, 74, 75, 76, 77, 78, 79] (by decide +kernel) (by decide +kernel)
set_option maxRecDepth 20000 in
theorem gX4_init_X0_init : GoodIn wsX4_init (wsX0_init) := ggX4_init_X0_init
set_option maxRecDepth 20000 in
theorem ggX4_init_X3_init : GoodIn wsX4_init wsX3_init := goodIn_r _ [65, 66, 2, 3, 31, 67, 68, 69, 70, 99, 100, 101, 102] (by decide +kernel) (by decide +kernel)
set_option maxRecDepth 20000 in
theorem gX4_init_X3_init_n40 : GoodIn wsX4_init (wsX3_init) := ggX4_init_X3_init
theorem dX4_init_0 : decode cX4_init 0 = .ok (.aload_n 0, 1) := by decide +kernel
theorem dX4_init_1 : decode cX4_init 1 = .ok (.invokespecial 1, 3) := by decide +kernel
theorem dX4_init_4 : decode cX4_init 4 = .ok (.aload_n 0, 1) := by decide +kernel
theorem dX4_init_5 : decode cX4_init 5 = .ok (.new 7, 3) := by decide +kernel
theorem dX4_init_8 : decode cX4_init 8 = .ok (.dup, 1) := by decide +kernel
theorem dX4_init_9 : decode cX4_init 9 = .ok (.invokespecial 9, 3) := by decide +kernel
theorem dX4_init_12 : decode cX4_init 12 = .ok (.putfield 10, 3) := by decide +kernel
theorem dX4_init_15 : decode cX4_init 15 = .ok (.aload_n 0, 1) := by decide +kernel
theorem dX4_init_16 : decode cX4_init 16 = .ok (.new 16, 3) := by decide +kernel
theorem dX4_init_19 : decode cX4_init 19 = .ok (.dup, 1) := by decide +kernel
theorem dX4_init_20 : decode cX4_init 20 = .ok (.aload_n 0, 1) := by decide +kernel
theorem dX4_init_21 : decode cX4_init 21 = .ok (.getfield 10, 3) := by decide +kernel
theorem dX4_init_24 : decode cX4_init 24 = .ok (.invokespecial 18, 3) := by decide +kernel
theorem dX4_init_27 : decode cX4_init 27 = .ok (.putfield 21, 3) := by decide +kernel
theorem dX4_init_30 : decode cX4_init 30 = .ok (.aload_n 0, 1) := by decide +kernel
theorem dX4_init_31 : decode cX4_init 31 = .ok (.new 7, 3) := by decide +kernel
theorem dX4_init_34 : decode cX4_init 34 = .ok (.dup, 1) := by decide +kernel
theorem dX4_init_35 : decode cX4_init 35 = .ok (.invokespecial 9, 3) := by decide +kernel
theorem dX4_init_38 : decode cX4_init 38 = .ok (.putfield 25, 3) := by decide +kernel
theorem dX4_init_41 : decode cX4_init 41 = .ok (.aload_n 0, 1) := by decide +kernel
theorem dX4_init_42 : decode cX4_init 42 = .ok (.new 16, 3) := by decide +kernel
theorem dX4_init_45 : decode cX4_init 45 = .ok (.dup, 1) := by decide +kernel
theorem dX4_init_46 : decode cX4_init 46 = .ok (.aload_n 0, 1) := by decide +kernel
theorem dX4_init_47 : decode cX4_init 47 = .ok (.getfield 25, 3) := by decide +kernel
theorem dX4_init_50 : decode cX4_init 50 = .ok (.invokespecial 18, 3) := by decide +kernel
theorem dX4_init_53 : decode cX4_init 53 = .ok (.putfield 28, 3) := by decide +kernel
theorem dX4_init_56 : decode cX4_init 56 = .ok (.aload_n 0, 1) := by decide +kernel
theorem dX4_init_57 : decode cX4_init 57 = .ok (.new 31, 3) := by decide +kernel
theorem dX4_init_60 : decode cX4_init 60 = .ok (.dup, 1) := by decide +kernel
theorem dX4_init_61 : decode cX4_init 61 = .ok (.invokespecial 33, 3) := by decide +kernel
theorem dX4_init_64 : decode cX4_init 64 = .ok (.putfield 34, 3) := by decide +kernel
theorem dX4_init_67 : decode cX4_init 67 = .ok (.aload_n 0, 1) := by decide +kernel
theorem dX4_init_68 : decode cX4_init 68 = .ok (.new 38, 3) := by decide +kernel
theorem dX4_init_71 : decode cX4_init 71 = .ok (.dup, 1) := by decide +kernel
theorem dX4_init_72 : decode cX4_init 72 = .ok (.invokespecial 40, 3) := by decide +kernel
theorem dX4_init_75 : decode cX4_init 75 = .ok (.putfield 41, 3) := by decide +kernel
theorem dX4_init_78 : decode cX4_init 78 = .ok (.aload_n 0, 1) := by decide +kernel
theorem dX4_init_79 : decode cX4_init 79 = .ok (.iconst 2, 1) := by decide +kernel
theorem dX4_init_80 : decode cX4_init 80 = .ok (.anewarray 7, 3) := by decide +kernel
theorem dX4_init_83 : decode cX4_init 83 = .ok (.putfield 45, 3) := by decide +kernel
theorem dX4_init_86 : decode cX4_init 86 = .ok (.aload_n 0, 1) := by decide +kernel
theorem dX4_init_87 : decode cX4_init 87 = .ok (.iconst 2, 1) := by decide +kernel
theorem dX4_init_88 : decode cX4_init 88 = .ok (.newarray .boolean, 2) := by decide +kernel
theorem dX4_init_90 : decode cX4_init 90 = .ok (.putfield 49, 3) := by decide +kernel
theorem dX4_init_93 : decode cX4_init 93 = .ok (.iconst 0, 1) := by decide +kernel
theorem dX4_init_94 : decode cX4_init 94 = .ok (.istore_n 1, 1) := by decide +kernel
theorem dX4_init_95 : decode cX4_init 95 = .ok (.iload_n 1, 1) := by decide +kernel
theorem dX4_init_96 : decode cX4_init 96 = .ok (.iconst 2, 1) := by decide +kernel
theorem dX4_init_97 : decode cX4_init 97 = .ok (.if_icmp .ge 22, 3) := by decide +kernel
theorem dX4_init_100 : decode cX4_init 100 = .ok (.aload_n 0, 1) := by decide +kernel
theorem dX4_init_101 : decode cX4_init 101 = .ok (.getfield 45, 3) := by decide +kernel
theorem dX4_init_104 : decode cX4_init 104 = .ok (.iload_n 1, 1) := by decide +kernel
theorem dX4_init_105 : decode cX4_init 105 = .ok (.new 7, 3) := by decide +kernel
theorem dX4_init_108 : decode cX4_init 108 = .ok (.dup, 1) := by decide +kernel
theorem dX4_init_109 : decode cX4_init 109 = .ok (.invokespecial 9, 3) := by decide +kernel
theorem dX4_init_112 : decode cX4_init 112 = .ok (.aastore, 1) := by decide +kernel
theorem dX4_init_113 : decode cX4_init 113 = .ok (.iinc 1 1, 3) := by decide +kernel
theorem dX4_init_116 : decode cX4_init 116 = .ok (.goto (-21), 3) := by decide +kernel
theorem dX4_init_119 : decode cX4_init 119 = .ok (.return_, 1) := by decide +kernel
set_option maxRecDepth 20000 in
theorem ggX4_begin_X4_isWithin : GoodIn wsX4_begin wsX4_isWithin := goodIn_r _ [8] (by decide +kernel) (by decide +kernel)
set_option maxRecDepth 20000 in
theorem gX4_begin_X4_isWithin : GoodIn wsX4_begin (va_wsS RX4 53 yX4_isWithin wsX4_isWithin) := goodIn_app (goodIn_of _ (by decide +kernel)) ggX4_begin_X4_isWithin
set_option maxRecDepth 20000 in
theorem ggX4_begin_X0_save : GoodIn wsX4_begin wsX0_save := goodIn_r _ [13, 14, 15, 16, 17, 18, 19, 20, 21, 22, 23, 24, 25, 26, 27, 28, 29, 30, 31, 32, 33, 34, 60, 61, 62, 51, 52, 53, 54, 55, 56, 57, 58, 59] (by decide +kernel) (by decide +kernel)
set_option maxRecDepth 20000 in
theorem gX4_begin_X0_save : GoodIn wsX4_begin (wsV RX4 62 RX0 yX0_save wsX0_save) := goodIn_app (goodIn_of _ (by decide +kernel)) ggX4_begin_X0_save
set_option maxRecDepth 20000 in
theorem ggX4_begin_X1_makeNew : GoodIn wsX4_begin wsX1_makeNew := goodIn_r _ [38, 22, 23, 29, 30, 31, 32, 34, 39, 40, 41, 42, 51, 52, 53, 54, 55, 56, 57, 58, 59] (by decide +kernel) (by decide +kernel)
set_option maxRecDepth 20000 in
theorem gX4_begin_X1_makeNew : GoodIn wsX4_begin (wsV RX4 65 RX1 yX1_makeNew wsX1_makeNew) := goodIn_app (goodIn_of _ (by decide +kernel)) ggX4_begin_X1_makeNew
theorem dX4_begin_0 : decode cX4_begin 0 = .ok (.iload_n 1, 1) := by decide +kernel
theorem dX4_begin_1 : decode cX4_begin 1 = .ok (.bipush 10, 2) := by decide +kernel
theorem dX4_begin_3 : decode cX4_begin 3 = .ok (.bipush 60, 2) := by decide +kernel
theorem dX4_begin_5 : decode cX4_begin 5 = .ok (.invokestatic 53, 3) := by decide +kernel
theorem dX4_begin_8 : decode cX4_begin 8 = .ok (.ifCond .ne 6, 3) := by decide +kernel
theorem dX4_begin_11 : decode cX4_begin 11 = .ok (.ldc 57, 2) := by decide +kernel
theorem dX4_begin_13 : decode cX4_begin 13 = .ok (.ireturn, 1) := by decide +kernel
theorem dX4_begin_14 : decode cX4_begin 14 = .ok (.aload_n 0, 1) := by decide +kernel
theorem dX4_begin_15 : decode cX4_begin 15 = .ok (.getfield 10, 3) := by decide +kernel
theorem dX4_begin_18 : decode cX4_begin 18 = .ok (.getfield 58, 3) := by decide +kernel
theorem dX4_begin_21 : decode cX4_begin 21 = .ok (.istore_n 2, 1) := by decide +kernel
theorem dX4_begin_22 : decode cX4_begin 22 = .ok (.aload_n 0, 1) := by decide +kernel
theorem dX4_begin_23 : decode cX4_begin 23 = .ok (.getfield 34, 3) := by decide +kernel
theorem dX4_begin_26 : decode cX4_begin 26 = .ok (.aload_n 0, 1) := by decide +kernel
theorem dX4_begin_27 : decode cX4_begin 27 = .ok (.getfield 10, 3) := by decide +kernel
theorem dX4_begin_30 : decode cX4_begin 30 = .ok (.invokevirtual 62, 3) := by decide +kernel
theorem dX4_begin_33 : decode cX4_begin 33 = .ok (.aload_n 0, 1) := by decide +kernel
theorem dX4_begin_34 : decode cX4_begin 34 = .ok (.getfield 10, 3) := by decide +kernel
theorem dX4_begin_37 : decode cX4_begin 37 = .ok (.iload_n 1, 1) := by decide +kernel
theorem dX4_begin_38 : decode cX4_begin 38 = .ok (.invokevirtual 65, 3) := by decide +kernel
theorem dX4_begin_41 : decode cX4_begin 41 = .ok (.iload_n 2, 1) := by decide +kernel
theorem dX4_begin_42 : decode cX4_begin 42 = .ok (.ireturn, 1) := by decide +kernel
set_option maxRecDepth 20000 in
theorem ggX4_setNumber_X4_isWithin : GoodIn wsX4_setNumber wsX4_isWithin := goodIn_r _ [8] (by decide +kernel) (by decide +kernel)
set_option maxRecDepth 20000 in
theorem gX4_setNumber_X4_isWithin : GoodIn wsX4_setNumber (va_wsS RX4 53 yX4_isWithin wsX4_isWithin) := goodIn_app (goodIn_of _ (by decide +kernel)) ggX4_setNumber_X4_isWithin
set_option maxRecDepth 20000 in
theorem ggX4_setNumber_X4_leastNumber : GoodIn wsX4_setNumber wsX4_leastNumber := goodIn_r _ [12, 2, 3, 13, 45, 46, 47, 48, 49, 50, 51, 52, 53, 54, 55, 56, 57, 58, 59, 60, 61] (by decide +kernel) (by decide +kernel)
set_option maxRecDepth 20000 in
theorem gX4_setNumber_X4_leastNumber : GoodIn wsX4_setNumber (wsV RX4 69 RX4 yX4_leastNumber wsX4_leastNumber) := goodIn_app (goodIn_of _ (by decide +kernel)) ggX4_setNumber_X4_leastNumber
set_option maxRecDepth 20000 in
theorem ggX4_setNumber_X4_greatestNumber : GoodIn wsX4_setNumber wsX4_greatestNumber := goodIn_r _ [17, 2, 3, 18, 45, 46, 47, 48, 49, 50, 51, 52, 53, 54, 55, 56, 57, 58, 59, 60, 61] (by decide +kernel) (by decide +kernel)
set_option maxRecDepth 20000 in
theorem gX4_setNumber_X4_greatestNumber : GoodIn wsX4_setNumber (wsV RX4 73 RX4 yX4_greatestNumber wsX4_greatestNumber) := goodIn_app (goodIn_of _ (by decide +kernel)) ggX4_setNumber_X4_greatestNumber
set_option maxRecDepth 20000 in
theorem ggX4_setNumber_X0_save : GoodIn wsX4_setNumber wsX0_save := goodIn_r _ [23, 24, 25, 26, 27, 28, 29, 30, 31, 32, 33, 34, 35, 36, 37, 38, 39, 40, 41, 42, 43, 44, 62, 63, 64, 53, 54, 55, 56, 57, 58, 59, 60, 61] (by decide +kernel) (by decide +kernel)
set_option maxRecDepth 20000 in
theorem gX4_setNumber_X0_save : GoodIn wsX4_setNumber (wsV RX4 62 RX0 yX0_save wsX0_save) := goodIn_app (goodIn_of _ (by decide +kernel)) ggX4_setNumber_X0_save
theorem dX4_setNumber_0 : decode cX4_setNumber 0 = .ok (.iload_n 1, 1) := by decide +kernel
theorem dX4_setNumber_1 : decode cX4_setNumber 1 = .ok (.iconst 0, 1) := by decide +kernel
theorem dX4_setNumber_2 : decode cX4_setNumber 2 = .ok (.bipush 7, 2) := by decide +kernel
theorem dX4_setNumber_4 : decode cX4_setNumber 4 = .ok (.invokestatic 53, 3) := by decide +kernel
theorem dX4_setNumber_7 : decode cX4_setNumber 7 = .ok (.ifCond .eq 20, 3) := by decide +kernel
theorem dX4_setNumber_10 : decode cX4_setNumber 10 = .ok (.iload_n 2, 1) := by decide +kernel
theorem dX4_setNumber_11 : decode cX4_setNumber 11 = .ok (.aload_n 0, 1) := by decide +kernel
theorem dX4_setNumber_12 : decode cX4_setNumber 12 = .ok (.iload_n 1, 1) := by decide +kernel
theorem dX4_setNumber_13 : decode cX4_setNumber 13 = .ok (.invokevirtual 69, 3) := by decide +kernel
theorem dX4_setNumber_16 : decode cX4_setNumber 16 = .ok (.aload_n 0, 1) := by decide +kernel
theorem dX4_setNumber_17 : decode cX4_setNumber 17 = .ok (.iload_n 1, 1) := by decide +kernel
theorem dX4_setNumber_18 : decode cX4_setNumber 18 = .ok (.invokevirtual 73, 3) := by decide +kernel
theorem dX4_setNumber_21 : decode cX4_setNumber 21 = .ok (.invokestatic 53, 3) := by decide +kernel
theorem dX4_setNumber_24 : decode cX4_setNumber 24 = .ok (.ifCond .ne 6, 3) := by decide +kernel
theorem dX4_setNumber_27 : decode cX4_setNumber 27 = .ok (.ldc 57, 2) := by decide +kernel
theorem dX4_setNumber_29 : decode cX4_setNumber 29 = .ok (.ireturn, 1) := by decide +kernel
theorem dX4_setNumber_30 : decode cX4_setNumber 30 = .ok (.aload_n 0, 1) := by decide +kernel
theorem dX4_setNumber_31 : decode cX4_setNumber 31 = .ok (.getfield 10, 3) := by decide +kernel
theorem dX4_setNumber_34 : decode cX4_setNumber 34 = .ok (.getfield 76, 3) := by decide +kernel
theorem dX4_setNumber_37 : decode cX4_setNumber 37 = .ok (.iload_n 1, 1) := by decide +kernel
theorem dX4_setNumber_38 : decode cX4_setNumber 38 = .ok (.iaload, 1) := by decide +kernel
theorem dX4_setNumber_39 : decode cX4_setNumber 39 = .ok (.istore_n 3, 1) := by decide +kernel
theorem dX4_setNumber_40 : decode cX4_setNumber 40 = .ok (.aload_n 0, 1) := by decide +kernel
theorem dX4_setNumber_41 : decode cX4_setNumber 41 = .ok (.getfield 34, 3) := by decide +kernel
theorem dX4_setNumber_44 : decode cX4_setNumber 44 = .ok (.aload_n 0, 1) := by decide +kernel
theorem dX4_setNumber_45 : decode cX4_setNumber 45 = .ok (.getfield 10, 3) := by decide +kernel
theorem dX4_setNumber_48 : decode cX4_setNumber 48 = .ok (.invokevirtual 62, 3) := by decide +kernel
theorem dX4_setNumber_51 : decode cX4_setNumber 51 = .ok (.aload_n 0, 1) := by decide +kernel
theorem dX4_setNumber_52 : decode cX4_setNumber 52 = .ok (.getfield 10, 3) := by decide +kernel
theorem dX4_setNumber_55 : decode cX4_setNumber 55 = .ok (.getfield 76, 3) := by decide +kernel
theorem dX4_setNumber_58 : decode cX4_setNumber 58 = .ok (.iload_n 1, 1) := by decide +kernel
theorem dX4_setNumber_59 : decode cX4_setNumber 59 = .ok (.iload_n 2, 1) := by decide +kernel
theorem dX4_setNumber_60 : decode cX4_setNumber 60 = .ok (.iastore, 1) := by decide +kernel
theorem dX4_setNumber_61 : decode cX4_setNumber 61 = .ok (.iload_n 3, 1) := by decide +kernel
theorem dX4_setNumber_62 : decode cX4_setNumber 62 = .ok (.ireturn, 1) := by decide +kernel
set_option maxRecDepth 20000 in
theorem ggX4_setLevel_X1_has : GoodIn wsX4_setLevel wsX1_has := goodIn_r _ [9, 10, 11, 12, 13, 54, 55, 56, 57, 58, 59, 60, 61, 62] (by decide +kernel) (by decide +kernel)
set_option maxRecDepth 20000 in
theorem gX4_setLevel_X1_has : GoodIn wsX4_setLevel (wsV RX4 80 RX1 yX1_has wsX1_has) := goodIn_app (goodIn_of _ (by decide +kernel)) ggX4_setLevel_X1_has
set_option maxRecDepth 20000 in
theorem ggX4_setLevel_X4_isLevel : GoodIn wsX4_setLevel wsX4_isLevel := goodIn_r _ [16, 17, 11, 12, 13] (by decide +kernel) (by decide +kernel)
set_option maxRecDepth 20000 in
theorem gX4_setLevel_X4_isLevel : GoodIn wsX4_setLevel (va_wsS RX4 84 yX4_isLevel wsX4_isLevel) := goodIn_app (goodIn_of _ (by decide +kernel)) ggX4_setLevel_X4_isLevel
set_option maxRecDepth 20000 in
theorem ggX4_setLevel_X0_save : GoodIn wsX4_setLevel wsX0_save := goodIn_r _ [22, 23, 24, 25, 26, 27, 28, 8, 29, 10, 30, 31, 32, 33, 34, 35, 36, 37, 38, 39, 40, 41, 63, 64, 65, 54, 55, 56, 57, 58, 59, 60, 61, 62] (by decide +kernel) (by decide +kernel)
set_option maxRecDepth 20000 in
theorem gX4_setLevel_X0_save : GoodIn wsX4_setLevel (wsV RX4 62 RX0 yX0_save wsX0_save) := goodIn_app (goodIn_of _ (by decide +kernel)) ggX4_setLevel_X0_save
set_option maxRecDepth 20000 in
theorem ggX4_setLevel_X1_putLevel : GoodIn wsX4_setLevel wsX1_putLevel := goodIn_r _ [45, 41, 36, 54, 55, 56, 57, 58, 59, 60, 61, 62] (by decide +kernel) (by decide +kernel)
set_option maxRecDepth 20000 in
theorem gX4_setLevel_X1_putLevel : GoodIn wsX4_setLevel (wsV RX4 90 RX1 yX1_putLevel wsX1_putLevel) := goodIn_app (goodIn_of _ (by decide +kernel)) ggX4_setLevel_X1_putLevel
theorem dX4_setLevel_0 : decode cX4_setLevel 0 = .ok (.aload_n 0, 1) := by decide +kernel
theorem dX4_setLevel_1 : decode cX4_setLevel 1 = .ok (.getfield 10, 3) := by decide +kernel
theorem dX4_setLevel_4 : decode cX4_setLevel 4 = .ok (.iload_n 1, 1) := by decide +kernel
theorem dX4_setLevel_5 : decode cX4_setLevel 5 = .ok (.invokevirtual 80, 3) := by decide +kernel
theorem dX4_setLevel_8 : decode cX4_setLevel 8 = .ok (.ifCond .eq 10, 3) := by decide +kernel
theorem dX4_setLevel_11 : decode cX4_setLevel 11 = .ok (.iload_n 2, 1) := by decide +kernel
theorem dX4_setLevel_12 : decode cX4_setLevel 12 = .ok (.invokestatic 84, 3) := by decide +kernel
theorem dX4_setLevel_15 : decode cX4_setLevel 15 = .ok (.ifCond .ne 6, 3) := by decide +kernel
theorem dX4_setLevel_18 : decode cX4_setLevel 18 = .ok (.ldc 57, 2) := by decide +kernel
theorem dX4_setLevel_20 : decode cX4_setLevel 20 = .ok (.ireturn, 1) := by decide +kernel
theorem dX4_setLevel_21 : decode cX4_setLevel 21 = .ok (.aload_n 0, 1) := by decide +kernel
theorem dX4_setLevel_22 : decode cX4_setLevel 22 = .ok (.getfield 10, 3) := by decide +kernel
theorem dX4_setLevel_25 : decode cX4_setLevel 25 = .ok (.getfield 87, 3) := by decide +kernel
theorem dX4_setLevel_28 : decode cX4_setLevel 28 = .ok (.iload_n 1, 1) := by decide +kernel
theorem dX4_setLevel_29 : decode cX4_setLevel 29 = .ok (.iaload, 1) := by decide +kernel
theorem dX4_setLevel_30 : decode cX4_setLevel 30 = .ok (.istore_n 3, 1) := by decide +kernel
theorem dX4_setLevel_31 : decode cX4_setLevel 31 = .ok (.aload_n 0, 1) := by decide +kernel
theorem dX4_setLevel_32 : decode cX4_setLevel 32 = .ok (.getfield 34, 3) := by decide +kernel
theorem dX4_setLevel_35 : decode cX4_setLevel 35 = .ok (.aload_n 0, 1) := by decide +kernel
theorem dX4_setLevel_36 : decode cX4_setLevel 36 = .ok (.getfield 10, 3) := by decide +kernel
theorem dX4_setLevel_39 : decode cX4_setLevel 39 = .ok (.invokevirtual 62, 3) := by decide +kernel
theorem dX4_setLevel_42 : decode cX4_setLevel 42 = .ok (.aload_n 0, 1) := by decide +kernel
theorem dX4_setLevel_43 : decode cX4_setLevel 43 = .ok (.getfield 10, 3) := by decide +kernel
theorem dX4_setLevel_46 : decode cX4_setLevel 46 = .ok (.iload_n 1, 1) := by decide +kernel
theorem dX4_setLevel_47 : decode cX4_setLevel 47 = .ok (.iload_n 2, 1) := by decide +kernel
theorem dX4_setLevel_48 : decode cX4_setLevel 48 = .ok (.invokevirtual 90, 3) := by decide +kernel
theorem dX4_setLevel_51 : decode cX4_setLevel 51 = .ok (.iload_n 3, 1) := by decide +kernel
theorem dX4_setLevel_52 : decode cX4_setLevel 52 = .ok (.ireturn, 1) := by decide +kernel
set_option maxRecDepth 20000 in
theorem ggX4_renew_X4_isStretch : GoodIn wsX4_renew wsX4_isStretch := goodIn_r _ [9, 3, 10, 11, 12, 13, 14, 15, 16, 8, 17, 42, 43, 44, 45, 46, 47, 48, 49, 50, 51, 52, 53, 54, 55, 56, 57, 58] (by decide +kernel) (by decide +kernel)
set_option maxRecDepth 20000 in
theorem gX4_renew_X4_isStretch : GoodIn wsX4_renew (wsV RX4 112 RX4 yX4_isStretch wsX4_isStretch) := goodIn_app (goodIn_of _ (by decide +kernel)) ggX4_renew_X4_isStretch
set_option maxRecDepth 20000 in
theorem ggX4_renew_X0_save : GoodIn wsX4_renew wsX0_save := goodIn_r _ [22, 23, 24, 25, 26, 27, 28, 13, 29, 15, 30, 31, 32, 33, 34, 35, 36, 37, 38, 39, 40, 41, 59, 60, 61, 50, 51, 52, 53, 54, 55, 56, 57, 58] (by decide +kernel) (by decide +kernel)
set_option maxRecDepth 20000 in
theorem gX4_renew_X0_save : GoodIn wsX4_renew (wsV RX4 62 RX0 yX0_save wsX0_save) := goodIn_app (goodIn_of _ (by decide +kernel)) ggX4_renew_X0_save
theorem dX4_renew_0 : decode cX4_renew 0 = .ok (.aload_n 0, 1) := by decide +kernel
theorem dX4_renew_1 : decode cX4_renew 1 = .ok (.iload_n 1, 1) := by decide +kernel
theorem dX4_renew_2 : decode cX4_renew 2 = .ok (.iload_n 2, 1) := by decide +kernel
theorem dX4_renew_3 : decode cX4_renew 3 = .ok (.invokevirtual 112, 3) := by decide +kernel
theorem dX4_renew_6 : decode cX4_renew 6 = .ok (.ifCond .ne 6, 3) := by decide +kernel
theorem dX4_renew_9 : decode cX4_renew 9 = .ok (.ldc 57, 2) := by decide +kernel
theorem dX4_renew_11 : decode cX4_renew 11 = .ok (.ireturn, 1) := by decide +kernel
theorem dX4_renew_12 : decode cX4_renew 12 = .ok (.aload_n 0, 1) := by decide +kernel
theorem dX4_renew_13 : decode cX4_renew 13 = .ok (.getfield 34, 3) := by decide +kernel
theorem dX4_renew_16 : decode cX4_renew 16 = .ok (.aload_n 0, 1) := by decide +kernel
theorem dX4_renew_17 : decode cX4_renew 17 = .ok (.getfield 10, 3) := by decide +kernel
theorem dX4_renew_20 : decode cX4_renew 20 = .ok (.invokevirtual 62, 3) := by decide +kernel
theorem dX4_renew_23 : decode cX4_renew 23 = .ok (.iconst 0, 1) := by decide +kernel
theorem dX4_renew_24 : decode cX4_renew 24 = .ok (.istore_n 3, 1) := by decide +kernel
theorem dX4_renew_25 : decode cX4_renew 25 = .ok (.iload_n 1, 1) := by decide +kernel
theorem dX4_renew_26 : decode cX4_renew 26 = .ok (.istore 4, 2) := by decide +kernel
theorem dX4_renew_28 : decode cX4_renew 28 = .ok (.iload 4, 2) := by decide +kernel
theorem dX4_renew_30 : decode cX4_renew 30 = .ok (.iload_n 2, 1) := by decide +kernel
theorem dX4_renew_31 : decode cX4_renew 31 = .ok (.if_icmp .gt 33, 3) := by decide +kernel
theorem dX4_renew_34 : decode cX4_renew 34 = .ok (.iload_n 3, 1) := by decide +kernel
theorem dX4_renew_35 : decode cX4_renew 35 = .ok (.aload_n 0, 1) := by decide +kernel
theorem dX4_renew_36 : decode cX4_renew 36 = .ok (.getfield 10, 3) := by decide +kernel
theorem dX4_renew_39 : decode cX4_renew 39 = .ok (.getfield 116, 3) := by decide +kernel
theorem dX4_renew_42 : decode cX4_renew 42 = .ok (.iload 4, 2) := by decide +kernel
theorem dX4_renew_44 : decode cX4_renew 44 = .ok (.iaload, 1) := by decide +kernel
theorem dX4_renew_45 : decode cX4_renew 45 = .ok (.iadd, 1) := by decide +kernel
theorem dX4_renew_46 : decode cX4_renew 46 = .ok (.istore_n 3, 1) := by decide +kernel
theorem dX4_renew_47 : decode cX4_renew 47 = .ok (.aload_n 0, 1) := by decide +kernel
theorem dX4_renew_48 : decode cX4_renew 48 = .ok (.getfield 10, 3) := by decide +kernel
theorem dX4_renew_51 : decode cX4_renew 51 = .ok (.getfield 116, 3) := by decide +kernel
theorem dX4_renew_54 : decode cX4_renew 54 = .ok (.iload 4, 2) := by decide +kernel
theorem dX4_renew_56 : decode cX4_renew 56 = .ok (.iconst 0, 1) := by decide +kernel
theorem dX4_renew_57 : decode cX4_renew 57 = .ok (.iastore, 1) := by decide +kernel
theorem dX4_renew_58 : decode cX4_renew 58 = .ok (.iinc 4 1, 3) := by decide +kernel
theorem dX4_renew_61 : decode cX4_renew 61 = .ok (.goto (-33), 3) := by decide +kernel
theorem dX4_renew_64 : decode cX4_renew 64 = .ok (.iload_n 3, 1) := by decide +kernel
theorem dX4_renew_65 : decode cX4_renew 65 = .ok (.ireturn, 1) := by decide +kernel
set_option maxRecDepth 20000 in
theorem ggX4_addJob_X4_isStretch : GoodIn wsX4_addJob wsX4_isStretch := goodIn_r _ [10, 2, 11, 12, 13, 14, 15, 16, 17, 9, 18, 51, 52, 53, 54, 55, 56, 57, 58, 59, 60, 61, 62, 63, 64, 65, 66, 67] (by decide +kernel) (by decide +kernel)
set_option maxRecDepth 20000 in
theorem gX4_addJob_X4_isStretch : GoodIn wsX4_addJob (wsV RX4 112 RX4 yX4_isStretch wsX4_isStretch) := goodIn_app (goodIn_of _ (by decide +kernel)) ggX4_addJob_X4_isStretch
set_option maxRecDepth 20000 in
theorem ggX4_addJob_X4_isLevel : GoodIn wsX4_addJob wsX4_isLevel := goodIn_r _ [21, 22, 17, 9, 18] (by decide +kernel) (by decide +kernel)
set_option maxRecDepth 20000 in
theorem gX4_addJob_X4_isLevel : GoodIn wsX4_addJob (va_wsS RX4 84 yX4_isLevel wsX4_isLevel) := goodIn_app (goodIn_of _ (by decide +kernel)) ggX4_addJob_X4_isLevel
set_option maxRecDepth 20000 in
theorem ggX4_addJob_X0_save : GoodIn wsX4_addJob wsX0_save := goodIn_r _ [27, 28, 29, 30, 31, 32, 33, 14, 34, 16, 35, 36, 37, 38, 39, 40, 41, 42, 43, 44, 45, 46, 68, 69, 70, 59, 60, 61, 62, 63, 64, 65, 66, 67] (by decide +kernel) (by decide +kernel)
set_option maxRecDepth 20000 in
theorem gX4_addJob_X0_save : GoodIn wsX4_addJob (wsV RX4 62 RX0 yX0_save wsX0_save) := goodIn_app (goodIn_of _ (by decide +kernel)) ggX4_addJob_X0_save
set_option maxRecDepth 20000 in
theorem ggX4_addJob_X1_appendJob : GoodIn wsX4_addJob wsX1_appendJob := goodIn_r _ [50, 35, 45, 59, 60, 61, 62, 63, 64, 65, 66, 67] (by decide +kernel) (by decide +kernel)
set_option maxRecDepth 20000 in
theorem gX4_addJob_X1_appendJob : GoodIn wsX4_addJob (wsV RX4 122 RX1 yX1_appendJob wsX1_appendJob) := goodIn_app (goodIn_of _ (by decide +kernel)) ggX4_addJob_X1_appendJob
theorem dX4_addJob_0 : decode cX4_addJob 0 = .ok (.aload_n 0, 1) := by decide +kernel
theorem dX4_addJob_1 : decode cX4_addJob 1 = .ok (.iload_n 1, 1) := by decide +kernel
theorem dX4_addJob_2 : decode cX4_addJob 2 = .ok (.iload_n 2, 1) := by decide +kernel
theorem dX4_addJob_3 : decode cX4_addJob 3 = .ok (.invokevirtual 112, 3) := by decide +kernel
theorem dX4_addJob_6 : decode cX4_addJob 6 = .ok (.ifCond .eq 10, 3) := by decide +kernel
theorem dX4_addJob_9 : decode cX4_addJob 9 = .ok (.iload_n 3, 1) := by decide +kernel
theorem dX4_addJob_10 : decode cX4_addJob 10 = .ok (.invokestatic 84, 3) := by decide +kernel
theorem dX4_addJob_13 : decode cX4_addJob 13 = .ok (.ifCond .ne 6, 3) := by decide +kernel
theorem dX4_addJob_16 : decode cX4_addJob 16 = .ok (.ldc 57, 2) := by decide +kernel
theorem dX4_addJob_18 : decode cX4_addJob 18 = .ok (.ireturn, 1) := by decide +kernel
theorem dX4_addJob_19 : decode cX4_addJob 19 = .ok (.aload_n 0, 1) := by decide +kernel
theorem dX4_addJob_20 : decode cX4_addJob 20 = .ok (.getfield 10, 3) := by decide +kernel
theorem dX4_addJob_23 : decode cX4_addJob 23 = .ok (.getfield 119, 3) := by decide +kernel
theorem dX4_addJob_26 : decode cX4_addJob 26 = .ok (.bipush 6, 2) := by decide +kernel
theorem dX4_addJob_28 : decode cX4_addJob 28 = .ok (.if_icmp .lt 6, 3) := by decide +kernel
theorem dX4_addJob_31 : decode cX4_addJob 31 = .ok (.ldc 97, 2) := by decide +kernel
theorem dX4_addJob_33 : decode cX4_addJob 33 = .ok (.ireturn, 1) := by decide +kernel
theorem dX4_addJob_34 : decode cX4_addJob 34 = .ok (.aload_n 0, 1) := by decide +kernel
theorem dX4_addJob_35 : decode cX4_addJob 35 = .ok (.getfield 34, 3) := by decide +kernel
theorem dX4_addJob_38 : decode cX4_addJob 38 = .ok (.aload_n 0, 1) := by decide +kernel
theorem dX4_addJob_39 : decode cX4_addJob 39 = .ok (.getfield 10, 3) := by decide +kernel
theorem dX4_addJob_42 : decode cX4_addJob 42 = .ok (.invokevirtual 62, 3) := by decide +kernel
theorem dX4_addJob_45 : decode cX4_addJob 45 = .ok (.aload_n 0, 1) := by decide +kernel
theorem dX4_addJob_46 : decode cX4_addJob 46 = .ok (.getfield 10, 3) := by decide +kernel
theorem dX4_addJob_49 : decode cX4_addJob 49 = .ok (.iload_n 1, 1) := by decide +kernel
theorem dX4_addJob_50 : decode cX4_addJob 50 = .ok (.iload_n 2, 1) := by decide +kernel
theorem dX4_addJob_51 : decode cX4_addJob 51 = .ok (.iload_n 3, 1) := by decide +kernel
theorem dX4_addJob_52 : decode cX4_addJob 52 = .ok (.invokevirtual 122, 3) := by decide +kernel
theorem dX4_addJob_55 : decode cX4_addJob 55 = .ok (.aload_n 0, 1) := by decide +kernel
theorem dX4_addJob_56 : decode cX4_addJob 56 = .ok (.getfield 10, 3) := by decide +kernel
theorem dX4_addJob_59 : decode cX4_addJob 59 = .ok (.getfield 119, 3) := by decide +kernel
theorem dX4_addJob_62 : decode cX4_addJob 62 = .ok (.ireturn, 1) := by decide +kernel
set_option maxRecDepth 20000 in
theorem ggX4_cancelJobs_X1_has : GoodIn wsX4_cancelJobs wsX1_has := goodIn_r _ [9, 10, 11, 12, 13, 55, 56, 57, 58, 59, 60, 61, 62, 63] (by decide +kernel) (by decide +kernel)
set_option maxRecDepth 20000 in
theorem gX4_cancelJobs_X1_has : GoodIn wsX4_cancelJobs (wsV RX4 80 RX1 yX1_has wsX1_has) := goodIn_app (goodIn_of _ (by decide +kernel)) ggX4_cancelJobs_X1_has
set_option maxRecDepth 20000 in
theorem ggX4_cancelJobs_X0_save : GoodIn wsX4_cancelJobs wsX0_save := goodIn_r _ [18, 19, 20, 21, 22, 23, 24, 8, 25, 10, 26, 27, 28, 29, 30, 31, 32, 33, 34, 35, 36, 37, 64, 65, 66, 55, 56, 57, 58, 59, 60, 61, 62, 63] (by decide +kernel) (by decide +kernel)
set_option maxRecDepth 20000 in
theorem gX4_cancelJobs_X0_save : GoodIn wsX4_cancelJobs (wsV RX4 62 RX0 yX0_save wsX0_save) := goodIn_app (goodIn_of _ (by decide +kernel)) ggX4_cancelJobs_X0_save
set_option maxRecDepth 20000 in
theorem ggX4_cancelJobs_X1_jobValue : GoodIn wsX4_cancelJobs wsX1_jobValue := goodIn_r _ [41, 36, 55, 56, 57, 58, 59, 60, 61, 62, 63] (by decide +kernel) (by decide +kernel)
set_option maxRecDepth 20000 in
theorem gX4_cancelJobs_X1_jobValue : GoodIn wsX4_cancelJobs (wsV RX4 126 RX1 yX1_jobValue wsX1_jobValue) := goodIn_app (goodIn_of _ (by decide +kernel)) ggX4_cancelJobs_X1_jobValue
set_option maxRecDepth 20000 in
theorem ggX4_cancelJobs_X4_isWithin : GoodIn wsX4_cancelJobs wsX4_isWithin := goodIn_r _ [13] (by decide +kernel) (by decide +kernel)
set_option maxRecDepth 20000 in
theorem gX4_cancelJobs_X4_isWithin : GoodIn wsX4_cancelJobs (va_wsS RX4 53 yX4_isWithin wsX4_isWithin) := goodIn_app (goodIn_of _ (by decide +kernel)) ggX4_cancelJobs_X4_isWithin
set_option maxRecDepth 20000 in
theorem ggX4_cancelJobs_X1_removeJob : GoodIn wsX4_cancelJobs wsX1_removeJob := goodIn_r _ [46, 36, 26, 28, 29, 30, 31, 55, 56, 57, 58, 59, 60, 61, 62, 63] (by decide +kernel) (by decide +kernel)
set_option maxRecDepth 20000 in
theorem gX4_cancelJobs_X1_removeJob : GoodIn wsX4_cancelJobs (wsV RX4 130 RX1 yX1_removeJob wsX1_removeJob) := goodIn_app (goodIn_of _ (by decide +kernel)) ggX4_cancelJobs_X1_removeJob
theorem dX4_cancelJobs_0 : decode cX4_cancelJobs 0 = .ok (.aload_n 0, 1) := by decide +kernel
theorem dX4_cancelJobs_1 : decode cX4_cancelJobs 1 = .ok (.getfield 10, 3) := by decide +kernel
theorem dX4_cancelJobs_4 : decode cX4_cancelJobs 4 = .ok (.iload_n 1, 1) := by decide +kernel
theorem dX4_cancelJobs_5 : decode cX4_cancelJobs 5 = .ok (.invokevirtual 80, 3) := by decide +kernel
theorem dX4_cancelJobs_8 : decode cX4_cancelJobs 8 = .ok (.ifCond .ne 6, 3) := by decide +kernel
theorem dX4_cancelJobs_11 : decode cX4_cancelJobs 11 = .ok (.ldc 57, 2) := by decide +kernel
theorem dX4_cancelJobs_13 : decode cX4_cancelJobs 13 = .ok (.ireturn, 1) := by decide +kernel
theorem dX4_cancelJobs_14 : decode cX4_cancelJobs 14 = .ok (.aload_n 0, 1) := by decide +kernel
theorem dX4_cancelJobs_15 : decode cX4_cancelJobs 15 = .ok (.getfield 34, 3) := by decide +kernel
theorem dX4_cancelJobs_18 : decode cX4_cancelJobs 18 = .ok (.aload_n 0, 1) := by decide +kernel
theorem dX4_cancelJobs_19 : decode cX4_cancelJobs 19 = .ok (.getfield 10, 3) := by decide +kernel
theorem dX4_cancelJobs_22 : decode cX4_cancelJobs 22 = .ok (.invokevirtual 62, 3) := by decide +kernel
theorem dX4_cancelJobs_25 : decode cX4_cancelJobs 25 = .ok (.iconst 0, 1) := by decide +kernel
theorem dX4_cancelJobs_26 : decode cX4_cancelJobs 26 = .ok (.istore_n 2, 1) := by decide +kernel
theorem dX4_cancelJobs_27 : decode cX4_cancelJobs 27 = .ok (.aload_n 0, 1) := by decide +kernel
theorem dX4_cancelJobs_28 : decode cX4_cancelJobs 28 = .ok (.getfield 10, 3) := by decide +kernel
theorem dX4_cancelJobs_31 : decode cX4_cancelJobs 31 = .ok (.getfield 119, 3) := by decide +kernel
theorem dX4_cancelJobs_34 : decode cX4_cancelJobs 34 = .ok (.iconst 1, 1) := by decide +kernel
theorem dX4_cancelJobs_35 : decode cX4_cancelJobs 35 = .ok (.isub, 1) := by decide +kernel
theorem dX4_cancelJobs_36 : decode cX4_cancelJobs 36 = .ok (.istore_n 3, 1) := by decide +kernel
theorem dX4_cancelJobs_37 : decode cX4_cancelJobs 37 = .ok (.iload_n 3, 1) := by decide +kernel
theorem dX4_cancelJobs_38 : decode cX4_cancelJobs 38 = .ok (.ifCond .lt 45, 3) := by decide +kernel
theorem dX4_cancelJobs_41 : decode cX4_cancelJobs 41 = .ok (.iload_n 1, 1) := by decide +kernel
theorem dX4_cancelJobs_42 : decode cX4_cancelJobs 42 = .ok (.aload_n 0, 1) := by decide +kernel
theorem dX4_cancelJobs_43 : decode cX4_cancelJobs 43 = .ok (.getfield 10, 3) := by decide +kernel
theorem dX4_cancelJobs_46 : decode cX4_cancelJobs 46 = .ok (.iload_n 3, 1) := by decide +kernel
theorem dX4_cancelJobs_47 : decode cX4_cancelJobs 47 = .ok (.iconst 3, 1) := by decide +kernel
theorem dX4_cancelJobs_48 : decode cX4_cancelJobs 48 = .ok (.invokevirtual 126, 3) := by decide +kernel
theorem dX4_cancelJobs_51 : decode cX4_cancelJobs 51 = .ok (.aload_n 0, 1) := by decide +kernel
theorem dX4_cancelJobs_52 : decode cX4_cancelJobs 52 = .ok (.getfield 10, 3) := by decide +kernel
theorem dX4_cancelJobs_55 : decode cX4_cancelJobs 55 = .ok (.iload_n 3, 1) := by decide +kernel
theorem dX4_cancelJobs_56 : decode cX4_cancelJobs 56 = .ok (.iconst 1, 1) := by decide +kernel
theorem dX4_cancelJobs_57 : decode cX4_cancelJobs 57 = .ok (.invokevirtual 126, 3) := by decide +kernel
theorem dX4_cancelJobs_60 : decode cX4_cancelJobs 60 = .ok (.invokestatic 53, 3) := by decide +kernel
theorem dX4_cancelJobs_63 : decode cX4_cancelJobs 63 = .ok (.ifCond .eq 14, 3) := by decide +kernel
theorem dX4_cancelJobs_66 : decode cX4_cancelJobs 66 = .ok (.aload_n 0, 1) := by decide +kernel
theorem dX4_cancelJobs_67 : decode cX4_cancelJobs 67 = .ok (.getfield 10, 3) := by decide +kernel
theorem dX4_cancelJobs_70 : decode cX4_cancelJobs 70 = .ok (.iload_n 3, 1) := by decide +kernel
theorem dX4_cancelJobs_71 : decode cX4_cancelJobs 71 = .ok (.invokevirtual 130, 3) := by decide +kernel
theorem dX4_cancelJobs_74 : decode cX4_cancelJobs 74 = .ok (.iinc 2 1, 3) := by decide +kernel
theorem dX4_cancelJobs_77 : decode cX4_cancelJobs 77 = .ok (.iinc 3 (-1), 3) := by decide +kernel
theorem dX4_cancelJobs_80 : decode cX4_cancelJobs 80 = .ok (.goto (-43), 3) := by decide +kernel
theorem dX4_cancelJobs_83 : decode cX4_cancelJobs 83 = .ok (.iload_n 2, 1) := by decide +kernel
theorem dX4_cancelJobs_84 : decode cX4_cancelJobs 84 = .ok (.ireturn, 1) := by decide +kernel
set_option maxRecDepth 20000 in
theorem ggX4_work_X4_isWithin : GoodIn wsX4_work wsX4_isWithin := goodIn_r _ [9] (by decide +kernel) (by decide +kernel)
set_option maxRecDepth 20000 in
theorem gX4_work_X4_isWithin : GoodIn wsX4_work (va_wsS RX4 53 yX4_isWithin wsX4_isWithin) := goodIn_app (goodIn_of _ (by decide +kernel)) ggX4_work_X4_isWithin
set_option maxRecDepth 20000 in
theorem ggX4_work_X0_save : GoodIn wsX4_work wsX0_save := goodIn_r _ [14, 15, 16, 17, 18, 19, 20, 21, 22, 23, 24, 25, 26, 27, 28, 29, 30, 31, 32, 33, 34, 35, 87, 88, 89, 78, 79, 80, 81, 82, 83, 84, 85, 86] (by decide +kernel) (by decide +kernel)
set_option maxRecDepth 20000 in
theorem gX4_work_X0_save : GoodIn wsX4_work (wsV RX4 62 RX0 yX0_save wsX0_save) := goodIn_app (goodIn_of _ (by decide +kernel)) ggX4_work_X0_save
set_option maxRecDepth 20000 in
theorem ggX4_work_X1_tamp : GoodIn wsX4_work wsX1_tamp := goodIn_r _ [39, 24, 35, 40, 41, 42, 21, 43, 34, 44, 45, 46, 47, 30, 25, 48, 49, 50, 51, 52, 8, 53, 54, 55, 56, 57, 33, 58, 59, 60, 61, 31, 62, 63, 64, 65, 66, 67, 68, 69, 26, 27, 28, 29, 78, 79, 80, 81, 82, 83, 84, 85, 86] (by decide +kernel) (by decide +kernel)
set_option maxRecDepth 20000 in
theorem gX4_work_X1_tamp : GoodIn wsX4_work (wsV RX4 134 RX1 yX1_tamp wsX1_tamp) := goodIn_app (goodIn_of _ (by decide +kernel)) ggX4_work_X1_tamp
theorem dX4_work_0 : decode cX4_work 0 = .ok (.iload_n 1, 1) := by decide +kernel
theorem dX4_work_1 : decode cX4_work 1 = .ok (.iconst 1, 1) := by decide +kernel
theorem dX4_work_2 : decode cX4_work 2 = .ok (.sipush 600, 3) := by decide +kernel
theorem dX4_work_5 : decode cX4_work 5 = .ok (.invokestatic 53, 3) := by decide +kernel
theorem dX4_work_8 : decode cX4_work 8 = .ok (.ifCond .ne 6, 3) := by decide +kernel
theorem dX4_work_11 : decode cX4_work 11 = .ok (.ldc 57, 2) := by decide +kernel
theorem dX4_work_13 : decode cX4_work 13 = .ok (.ireturn, 1) := by decide +kernel
theorem dX4_work_14 : decode cX4_work 14 = .ok (.aload_n 0, 1) := by decide +kernel
theorem dX4_work_15 : decode cX4_work 15 = .ok (.getfield 10, 3) := by decide +kernel
theorem dX4_work_18 : decode cX4_work 18 = .ok (.getfield 119, 3) := by decide +kernel
theorem dX4_work_21 : decode cX4_work 21 = .ok (.ifCond .ne 6, 3) := by decide +kernel
theorem dX4_work_24 : decode cX4_work 24 = .ok (.ldc 133, 2) := by decide +kernel
theorem dX4_work_26 : decode cX4_work 26 = .ok (.ireturn, 1) := by decide +kernel
theorem dX4_work_27 : decode cX4_work 27 = .ok (.aload_n 0, 1) := by decide +kernel
theorem dX4_work_28 : decode cX4_work 28 = .ok (.getfield 34, 3) := by decide +kernel
theorem dX4_work_31 : decode cX4_work 31 = .ok (.aload_n 0, 1) := by decide +kernel
theorem dX4_work_32 : decode cX4_work 32 = .ok (.getfield 10, 3) := by decide +kernel
theorem dX4_work_35 : decode cX4_work 35 = .ok (.invokevirtual 62, 3) := by decide +kernel
theorem dX4_work_38 : decode cX4_work 38 = .ok (.aload_n 0, 1) := by decide +kernel
theorem dX4_work_39 : decode cX4_work 39 = .ok (.getfield 10, 3) := by decide +kernel
theorem dX4_work_42 : decode cX4_work 42 = .ok (.iload_n 1, 1) := by decide +kernel
theorem dX4_work_43 : decode cX4_work 43 = .ok (.invokevirtual 134, 3) := by decide +kernel
theorem dX4_work_46 : decode cX4_work 46 = .ok (.ireturn, 1) := by decide +kernel
set_option maxRecDepth 20000 in
theorem ggX4_trains_X4_isTrain : GoodIn wsX4_trains wsX4_isTrain := goodIn_r _ [10, 11, 12, 9, 13] (by decide +kernel) (by decide +kernel)
set_option maxRecDepth 20000 in
theorem gX4_trains_X4_isTrain : GoodIn wsX4_trains (va_wsS RX4 137 yX4_isTrain wsX4_isTrain) := goodIn_app (goodIn_of _ (by decide +kernel)) ggX4_trains_X4_isTrain
set_option maxRecDepth 20000 in
theorem ggX4_trains_X4_isWithin : GoodIn wsX4_trains wsX4_isWithin := goodIn_r _ [13] (by decide +kernel) (by decide +kernel)
set_option maxRecDepth 20000 in
theorem gX4_trains_X4_isWithin : GoodIn wsX4_trains (va_wsS RX4 53 yX4_isWithin wsX4_isWithin) := goodIn_app (goodIn_of _ (by decide +kernel)) ggX4_trains_X4_isWithin
set_option maxRecDepth 20000 in
theorem ggX4_trains_X2_look : GoodIn wsX4_trains wsX2_look := goodIn_r _ [18, 19, 20, 21, 22, 23, 17, 24, 25, 26, 27, 28, 29, 30, 31, 32, 33, 34, 35, 36, 37, 38, 39, 40, 41, 42, 43, 44, 45, 46, 47, 48, 49, 50, 51, 52, 53, 54, 55, 12, 9, 13, 56, 57, 58, 59, 133, 134, 135, 136, 137, 138, 139, 140, 141, 142, 143, 144, 145, 146, 147, 148, 149] (by decide +kernel) (by decide +kernel)
set_option maxRecDepth 20000 in
theorem gX4_trains_X2_look : GoodIn wsX4_trains (wsV RX4 140 RX2 yX2_look wsX2_look) := goodIn_app (goodIn_of _ (by decide +kernel)) ggX4_trains_X2_look
set_option maxRecDepth 20000 in
theorem ggX4_trains_X0_save : GoodIn wsX4_trains wsX0_save := goodIn_r _ [64, 65, 66, 67, 68, 69, 70, 71, 72, 73, 74, 75, 76, 77, 78, 79, 80, 81, 82, 83, 84, 85, 150, 151, 152, 141, 142, 143, 144, 145, 146, 147, 148, 149] (by decide +kernel) (by decide +kernel)
set_option maxRecDepth 20000 in
theorem gX4_trains_X0_save : GoodIn wsX4_trains (wsV RX4 62 RX0 yX0_save wsX0_save) := goodIn_app (goodIn_of _ (by decide +kernel)) ggX4_trains_X0_save
set_option maxRecDepth 20000 in
theorem ggX4_trains_X4_passTrain : GoodIn wsX4_trains wsX4_passTrain := goodIn_r _ [88, 89, 90, 91, 92, 3, 93, 94, 95, 17, 96, 25, 27, 39, 97, 98, 99, 100, 101, 102, 103, 104, 71, 105, 81, 106, 107, 31, 108, 109, 110, 9, 111, 112, 113, 114, 115, 116, 117, 118, 119, 120, 121, 80, 82, 85, 122, 123, 124, 14, 15, 16, 18, 19, 20, 21, 22, 23, 24, 26, 28, 29, 30, 32, 33, 34, 35, 36, 37, 38, 40, 41, 42, 43, 44, 45, 46, 47, 48, 49, 50, 51, 52, 53, 54, 55, 12, 13, 56, 57, 58, 59, 133, 134, 135, 136, 137, 138, 139, 140, 141, 142, 143, 144, 145, 146, 147, 148, 149] (by decide +kernel) (by decide +kernel)
set_option maxRecDepth 20000 in
theorem gX4_trains_X4_passTrain : GoodIn wsX4_trains (va_wsS RX4 146 yX4_passTrain wsX4_passTrain) := goodIn_app (goodIn_of _ (by decide +kernel)) ggX4_trains_X4_passTrain
theorem dX4_trains_0 : decode cX4_trains 0 = .ok (.iload_n 1, 1) := by decide +kernel
theorem dX4_trains_1 : decode cX4_trains 1 = .ok (.iload_n 2, 1) := by decide +kernel
theorem dX4_trains_2 : decode cX4_trains 2 = .ok (.invokestatic 137, 3) := by decide +kernel
theorem dX4_trains_5 : decode cX4_trains 5 = .ok (.ifCond .eq 13, 3) := by decide +kernel
theorem dX4_trains_8 : decode cX4_trains 8 = .ok (.iload_n 3, 1) := by decide +kernel
theorem dX4_trains_9 : decode cX4_trains 9 = .ok (.iconst 1, 1) := by decide +kernel
theorem dX4_trains_10 : decode cX4_trains 10 = .ok (.bipush 50, 2) := by decide +kernel
theorem dX4_trains_12 : decode cX4_trains 12 = .ok (.invokestatic 53, 3) := by decide +kernel
theorem dX4_trains_15 : decode cX4_trains 15 = .ok (.ifCond .ne 6, 3) := by decide +kernel
theorem dX4_trains_18 : decode cX4_trains 18 = .ok (.ldc 57, 2) := by decide +kernel
theorem dX4_trains_20 : decode cX4_trains 20 = .ok (.ireturn, 1) := by decide +kernel
theorem dX4_trains_21 : decode cX4_trains 21 = .ok (.aload_n 0, 1) := by decide +kernel
theorem dX4_trains_22 : decode cX4_trains 22 = .ok (.getfield 21, 3) := by decide +kernel
theorem dX4_trains_25 : decode cX4_trains 25 = .ok (.invokevirtual 140, 3) := by decide +kernel
theorem dX4_trains_28 : decode cX4_trains 28 = .ok (.aload_n 0, 1) := by decide +kernel
theorem dX4_trains_29 : decode cX4_trains 29 = .ok (.getfield 21, 3) := by decide +kernel
theorem dX4_trains_32 : decode cX4_trains 32 = .ok (.getfield 143, 3) := by decide +kernel
theorem dX4_trains_35 : decode cX4_trains 35 = .ok (.iconst 3, 1) := by decide +kernel
theorem dX4_trains_36 : decode cX4_trains 36 = .ok (.if_icmp .lt 6, 3) := by decide +kernel
theorem dX4_trains_39 : decode cX4_trains 39 = .ok (.ldc 133, 2) := by decide +kernel
theorem dX4_trains_41 : decode cX4_trains 41 = .ok (.ireturn, 1) := by decide +kernel
theorem dX4_trains_42 : decode cX4_trains 42 = .ok (.aload_n 0, 1) := by decide +kernel
theorem dX4_trains_43 : decode cX4_trains 43 = .ok (.getfield 34, 3) := by decide +kernel
theorem dX4_trains_46 : decode cX4_trains 46 = .ok (.aload_n 0, 1) := by decide +kernel
theorem dX4_trains_47 : decode cX4_trains 47 = .ok (.getfield 10, 3) := by decide +kernel
theorem dX4_trains_50 : decode cX4_trains 50 = .ok (.invokevirtual 62, 3) := by decide +kernel
theorem dX4_trains_53 : decode cX4_trains 53 = .ok (.iconst 0, 1) := by decide +kernel
theorem dX4_trains_54 : decode cX4_trains 54 = .ok (.istore 4, 2) := by decide +kernel
theorem dX4_trains_56 : decode cX4_trains 56 = .ok (.iload 4, 2) := by decide +kernel
theorem dX4_trains_58 : decode cX4_trains 58 = .ok (.iload_n 3, 1) := by decide +kernel
theorem dX4_trains_59 : decode cX4_trains 59 = .ok (.if_icmp .ge 29, 3) := by decide +kernel
theorem dX4_trains_62 : decode cX4_trains 62 = .ok (.aload_n 0, 1) := by decide +kernel
theorem dX4_trains_63 : decode cX4_trains 63 = .ok (.getfield 21, 3) := by decide +kernel
theorem dX4_trains_66 : decode cX4_trains 66 = .ok (.getfield 143, 3) := by decide +kernel
theorem dX4_trains_69 : decode cX4_trains 69 = .ok (.iconst 3, 1) := by decide +kernel
theorem dX4_trains_70 : decode cX4_trains 70 = .ok (.if_icmp .ge 18, 3) := by decide +kernel
theorem dX4_trains_73 : decode cX4_trains 73 = .ok (.aload_n 0, 1) := by decide +kernel
theorem dX4_trains_74 : decode cX4_trains 74 = .ok (.getfield 21, 3) := by decide +kernel
theorem dX4_trains_77 : decode cX4_trains 77 = .ok (.iload_n 1, 1) := by decide +kernel
theorem dX4_trains_78 : decode cX4_trains 78 = .ok (.iload_n 2, 1) := by decide +kernel
theorem dX4_trains_79 : decode cX4_trains 79 = .ok (.invokestatic 146, 3) := by decide +kernel
theorem dX4_trains_82 : decode cX4_trains 82 = .ok (.iinc 4 1, 3) := by decide +kernel
theorem dX4_trains_85 : decode cX4_trains 85 = .ok (.goto (-29), 3) := by decide +kernel
theorem dX4_trains_88 : decode cX4_trains 88 = .ok (.iload 4, 2) := by decide +kernel
theorem dX4_trains_90 : decode cX4_trains 90 = .ok (.ireturn, 1) := by decide +kernel
set_option maxRecDepth 20000 in
theorem ggX4_keep_X4_isWithin : GoodIn wsX4_keep wsX4_isWithin := goodIn_r _ [9] (by decide +kernel) (by decide +kernel)
set_option maxRecDepth 20000 in
theorem gX4_keep_X4_isWithin : GoodIn wsX4_keep (va_wsS RX4 53 yX4_isWithin wsX4_isWithin) := goodIn_app (goodIn_of _ (by decide +kernel)) ggX4_keep_X4_isWithin
set_option maxRecDepth 20000 in
theorem ggX4_keep_X1_copyFrom : GoodIn wsX4_keep wsX1_copyFrom := goodIn_r _ [14, 15, 16, 17, 18, 19, 20, 21, 22, 23, 24, 25, 26, 27, 36, 37, 38, 39, 40, 41, 42, 43, 44] (by decide +kernel) (by decide +kernel)
set_option maxRecDepth 20000 in
theorem gX4_keep_X1_copyFrom : GoodIn wsX4_keep (wsV RX4 101 RX1 yX1_copyFrom wsX1_copyFrom) := goodIn_app (goodIn_of _ (by decide +kernel)) ggX4_keep_X1_copyFrom
theorem dX4_keep_0 : decode cX4_keep 0 = .ok (.iload_n 1, 1) := by decide +kernel
theorem dX4_keep_1 : decode cX4_keep 1 = .ok (.iconst 0, 1) := by decide +kernel
theorem dX4_keep_2 : decode cX4_keep 2 = .ok (.iconst 1, 1) := by decide +kernel
theorem dX4_keep_3 : decode cX4_keep 3 = .ok (.invokestatic 53, 3) := by decide +kernel
theorem dX4_keep_6 : decode cX4_keep 6 = .ok (.ifCond .ne 6, 3) := by decide +kernel
theorem dX4_keep_9 : decode cX4_keep 9 = .ok (.ldc 57, 2) := by decide +kernel
theorem dX4_keep_11 : decode cX4_keep 11 = .ok (.ireturn, 1) := by decide +kernel
theorem dX4_keep_12 : decode cX4_keep 12 = .ok (.aload_n 0, 1) := by decide +kernel
theorem dX4_keep_13 : decode cX4_keep 13 = .ok (.getfield 45, 3) := by decide +kernel
theorem dX4_keep_16 : decode cX4_keep 16 = .ok (.iload_n 1, 1) := by decide +kernel
theorem dX4_keep_17 : decode cX4_keep 17 = .ok (.aaload, 1) := by decide +kernel
theorem dX4_keep_18 : decode cX4_keep 18 = .ok (.aload_n 0, 1) := by decide +kernel
theorem dX4_keep_19 : decode cX4_keep 19 = .ok (.getfield 10, 3) := by decide +kernel
theorem dX4_keep_22 : decode cX4_keep 22 = .ok (.invokevirtual 101, 3) := by decide +kernel
theorem dX4_keep_25 : decode cX4_keep 25 = .ok (.aload_n 0, 1) := by decide +kernel
theorem dX4_keep_26 : decode cX4_keep 26 = .ok (.getfield 49, 3) := by decide +kernel
theorem dX4_keep_29 : decode cX4_keep 29 = .ok (.iload_n 1, 1) := by decide +kernel
theorem dX4_keep_30 : decode cX4_keep 30 = .ok (.iconst 1, 1) := by decide +kernel
theorem dX4_keep_31 : decode cX4_keep 31 = .ok (.bastore, 1) := by decide +kernel
theorem dX4_keep_32 : decode cX4_keep 32 = .ok (.aload_n 0, 1) := by decide +kernel
theorem dX4_keep_33 : decode cX4_keep 33 = .ok (.getfield 10, 3) := by decide +kernel
theorem dX4_keep_36 : decode cX4_keep 36 = .ok (.getfield 150, 3) := by decide +kernel
theorem dX4_keep_39 : decode cX4_keep 39 = .ok (.iconst 4, 1) := by decide +kernel
theorem dX4_keep_40 : decode cX4_keep 40 = .ok (.iaload, 1) := by decide +kernel
theorem dX4_keep_41 : decode cX4_keep 41 = .ok (.ireturn, 1) := by decide +kernel
set_option maxRecDepth 20000 in
theorem ggX4_back_X4_isWithin : GoodIn wsX4_back wsX4_isWithin := goodIn_r _ [11] (by decide +kernel) (by decide +kernel)
set_option maxRecDepth 20000 in
theorem gX4_back_X4_isWithin : GoodIn wsX4_back (va_wsS RX4 53 yX4_isWithin wsX4_isWithin) := goodIn_app (goodIn_of _ (by decide +kernel)) ggX4_back_X4_isWithin
set_option maxRecDepth 20000 in
theorem ggX4_back_X0_save : GoodIn wsX4_back wsX0_save := goodIn_r _ [16, 17, 18, 19, 20, 21, 22, 23, 24, 25, 26, 27, 28, 29, 30, 31, 32, 33, 34, 35, 36, 37, 56, 57, 58, 47, 48, 49, 50, 51, 52, 53, 54, 55] (by decide +kernel) (by decide +kernel)
set_option maxRecDepth 20000 in
theorem gX4_back_X0_save : GoodIn wsX4_back (wsV RX4 62 RX0 yX0_save wsX0_save) := goodIn_app (goodIn_of _ (by decide +kernel)) ggX4_back_X0_save
set_option maxRecDepth 20000 in
theorem ggX4_back_X1_copyFrom : GoodIn wsX4_back wsX1_copyFrom := goodIn_r _ [24, 25, 26, 27, 28, 29, 30, 31, 32, 33, 34, 35, 36, 37, 47, 48, 49, 50, 51, 52, 53, 54, 55] (by decide +kernel) (by decide +kernel)
set_option maxRecDepth 20000 in
theorem gX4_back_X1_copyFrom : GoodIn wsX4_back (wsV RX4 101 RX1 yX1_copyFrom wsX1_copyFrom) := goodIn_app (goodIn_of _ (by decide +kernel)) ggX4_back_X1_copyFrom
theorem dX4_back_0 : decode cX4_back 0 = .ok (.iload_n 1, 1) := by decide +kernel
theorem dX4_back_1 : decode cX4_back 1 = .ok (.iconst 0, 1) := by decide +kernel
theorem dX4_back_2 : decode cX4_back 2 = .ok (.iconst 1, 1) := by decide +kernel
theorem dX4_back_3 : decode cX4_back 3 = .ok (.invokestatic 53, 3) := by decide +kernel
theorem dX4_back_6 : decode cX4_back 6 = .ok (.ifCond .ne 6, 3) := by decide +kernel
theorem dX4_back_9 : decode cX4_back 9 = .ok (.ldc 57, 2) := by decide +kernel
theorem dX4_back_11 : decode cX4_back 11 = .ok (.ireturn, 1) := by decide +kernel
theorem dX4_back_12 : decode cX4_back 12 = .ok (.aload_n 0, 1) := by decide +kernel
theorem dX4_back_13 : decode cX4_back 13 = .ok (.getfield 49, 3) := by decide +kernel
theorem dX4_back_16 : decode cX4_back 16 = .ok (.iload_n 1, 1) := by decide +kernel
theorem dX4_back_17 : decode cX4_back 17 = .ok (.baload, 1) := by decide +kernel
theorem dX4_back_18 : decode cX4_back 18 = .ok (.ifCond .ne 6, 3) := by decide +kernel
theorem dX4_back_21 : decode cX4_back 21 = .ok (.ldc 133, 2) := by decide +kernel
theorem dX4_back_23 : decode cX4_back 23 = .ok (.ireturn, 1) := by decide +kernel
theorem dX4_back_24 : decode cX4_back 24 = .ok (.aload_n 0, 1) := by decide +kernel
theorem dX4_back_25 : decode cX4_back 25 = .ok (.getfield 34, 3) := by decide +kernel
theorem dX4_back_28 : decode cX4_back 28 = .ok (.aload_n 0, 1) := by decide +kernel
theorem dX4_back_29 : decode cX4_back 29 = .ok (.getfield 10, 3) := by decide +kernel
theorem dX4_back_32 : decode cX4_back 32 = .ok (.invokevirtual 62, 3) := by decide +kernel
theorem dX4_back_35 : decode cX4_back 35 = .ok (.aload_n 0, 1) := by decide +kernel
theorem dX4_back_36 : decode cX4_back 36 = .ok (.getfield 10, 3) := by decide +kernel
theorem dX4_back_39 : decode cX4_back 39 = .ok (.aload_n 0, 1) := by decide +kernel
theorem dX4_back_40 : decode cX4_back 40 = .ok (.getfield 45, 3) := by decide +kernel
theorem dX4_back_43 : decode cX4_back 43 = .ok (.iload_n 1, 1) := by decide +kernel
theorem dX4_back_44 : decode cX4_back 44 = .ok (.aaload, 1) := by decide +kernel
theorem dX4_back_45 : decode cX4_back 45 = .ok (.invokevirtual 101, 3) := by decide +kernel
theorem dX4_back_48 : decode cX4_back 48 = .ok (.aload_n 0, 1) := by decide +kernel
theorem dX4_back_49 : decode cX4_back 49 = .ok (.getfield 10, 3) := by decide +kernel
theorem dX4_back_52 : decode cX4_back 52 = .ok (.getfield 150, 3) := by decide +kernel
theorem dX4_back_55 : decode cX4_back 55 = .ok (.iconst 4, 1) := by decide +kernel
theorem dX4_back_56 : decode cX4_back 56 = .ok (.iaload, 1) := by decide +kernel
theorem dX4_back_57 : decode cX4_back 57 = .ok (.ireturn, 1) := by decide +kernel
set_option maxRecDepth 20000 in
theorem ggX4_undo_X0_restore : GoodIn wsX4_undo wsX0_restore := goodIn_r _ [9, 10, 11, 12, 13, 14, 15, 16, 17, 18, 19, 20, 21, 22, 23, 24, 25, 26, 27, 28, 29, 30, 39, 40, 41, 42, 43, 44, 45, 46, 47, 48, 49, 50] (by decide +kernel) (by decide +kernel)
set_option maxRecDepth 20000 in
theorem gX4_undo_X0_restore : GoodIn wsX4_undo (wsV RX4 156 RX0 yX0_restore wsX0_restore) := goodIn_app (goodIn_of _ (by decide +kernel)) ggX4_undo_X0_restore
theorem dX4_undo_0 : decode cX4_undo 0 = .ok (.aload_n 0, 1) := by decide +kernel
theorem dX4_undo_1 : decode cX4_undo 1 = .ok (.getfield 34, 3) := by decide +kernel
theorem dX4_undo_4 : decode cX4_undo 4 = .ok (.getfield 153, 3) := by decide +kernel
theorem dX4_undo_7 : decode cX4_undo 7 = .ok (.ifCond .ne 6, 3) := by decide +kernel
theorem dX4_undo_10 : decode cX4_undo 10 = .ok (.ldc 133, 2) := by decide +kernel
theorem dX4_undo_12 : decode cX4_undo 12 = .ok (.ireturn, 1) := by decide +kernel
theorem dX4_undo_13 : decode cX4_undo 13 = .ok (.aload_n 0, 1) := by decide +kernel
theorem dX4_undo_14 : decode cX4_undo 14 = .ok (.getfield 34, 3) := by decide +kernel
theorem dX4_undo_17 : decode cX4_undo 17 = .ok (.aload_n 0, 1) := by decide +kernel
theorem dX4_undo_18 : decode cX4_undo 18 = .ok (.getfield 10, 3) := by decide +kernel
theorem dX4_undo_21 : decode cX4_undo 21 = .ok (.invokevirtual 156, 3) := by decide +kernel
theorem dX4_undo_24 : decode cX4_undo 24 = .ok (.aload_n 0, 1) := by decide +kernel
theorem dX4_undo_25 : decode cX4_undo 25 = .ok (.getfield 34, 3) := by decide +kernel
theorem dX4_undo_28 : decode cX4_undo 28 = .ok (.getfield 153, 3) := by decide +kernel
theorem dX4_undo_31 : decode cX4_undo 31 = .ok (.ireturn, 1) := by decide +kernel
set_option maxRecDepth 20000 in
theorem ggX4_count_X4_isWithin : GoodIn wsX4_count wsX4_isWithin := goodIn_r _ [16] (by decide +kernel) (by decide +kernel)
set_option maxRecDepth 20000 in
theorem gX4_count_X4_isWithin : GoodIn wsX4_count (va_wsS RX4 53 yX4_isWithin wsX4_isWithin) := goodIn_app (goodIn_of _ (by decide +kernel)) ggX4_count_X4_isWithin
set_option maxRecDepth 20000 in
theorem ggX4_count_X2_look : GoodIn wsX4_count wsX2_look := goodIn_r _ [21, 22, 23, 24, 25, 26, 20, 27, 28, 29, 30, 31, 32, 33, 34, 35, 36, 37, 38, 39, 40, 41, 42, 43, 44, 45, 46, 47, 48, 49, 50, 51, 52, 53, 54, 55, 56, 57, 58, 14, 15, 16, 59, 60, 61, 62, 85, 86, 87, 88, 89, 90, 91, 92, 76, 77, 78, 79, 80, 81, 82, 83, 84] (by decide +kernel) (by decide +kernel)
set_option maxRecDepth 20000 in
theorem gX4_count_X2_look : GoodIn wsX4_count (wsV RX4 140 RX2 yX2_look wsX2_look) := goodIn_app (goodIn_of _ (by decide +kernel)) ggX4_count_X2_look
set_option maxRecDepth 20000 in
theorem ggX4_count_X4_keptMask : GoodIn wsX4_count wsX4_keptMask := goodIn_r _ [66, 67, 68, 69, 70, 71, 72, 73, 74, 75] (by decide +kernel) (by decide +kernel)
set_option maxRecDepth 20000 in
theorem gX4_count_X4_keptMask : GoodIn wsX4_count (wsV RX4 162 RX4 yX4_keptMask wsX4_keptMask) := goodIn_app (goodIn_of _ (by decide +kernel)) ggX4_count_X4_keptMask
theorem dX4_count_0 : decode cX4_count 0 = .ok (.iload_n 1, 1) := by decide +kernel
theorem dX4_count_1 : decode cX4_count 1 = .ok (.iconst 0, 1) := by decide +kernel
theorem dX4_count_2 : decode cX4_count 2 = .ok (.bipush 14, 2) := by decide +kernel
theorem dX4_count_4 : decode cX4_count 4 = .ok (.invokestatic 53, 3) := by decide +kernel
theorem dX4_count_7 : decode cX4_count 7 = .ok (.ifCond .ne 6, 3) := by decide +kernel
theorem dX4_count_10 : decode cX4_count 10 = .ok (.ldc 57, 2) := by decide +kernel
theorem dX4_count_12 : decode cX4_count 12 = .ok (.ireturn, 1) := by decide +kernel
theorem dX4_count_13 : decode cX4_count 13 = .ok (.iload_n 1, 1) := by decide +kernel
theorem dX4_count_14 : decode cX4_count 14 = .ok (.iconst 1, 1) := by decide +kernel
theorem dX4_count_15 : decode cX4_count 15 = .ok (.if_icmp .lt 21, 3) := by decide +kernel
theorem dX4_count_18 : decode cX4_count 18 = .ok (.iload_n 1, 1) := by decide +kernel
theorem dX4_count_19 : decode cX4_count 19 = .ok (.bipush 8, 2) := by decide +kernel
theorem dX4_count_21 : decode cX4_count 21 = .ok (.if_icmp .gt 15, 3) := by decide +kernel
theorem dX4_count_24 : decode cX4_count 24 = .ok (.aload_n 0, 1) := by decide +kernel
theorem dX4_count_25 : decode cX4_count 25 = .ok (.getfield 10, 3) := by decide +kernel
theorem dX4_count_28 : decode cX4_count 28 = .ok (.getfield 76, 3) := by decide +kernel
theorem dX4_count_31 : decode cX4_count 31 = .ok (.iload_n 1, 1) := by decide +kernel
theorem dX4_count_32 : decode cX4_count 32 = .ok (.iconst 1, 1) := by decide +kernel
theorem dX4_count_33 : decode cX4_count 33 = .ok (.isub, 1) := by decide +kernel
theorem dX4_count_34 : decode cX4_count 34 = .ok (.iaload, 1) := by decide +kernel
theorem dX4_count_35 : decode cX4_count 35 = .ok (.ireturn, 1) := by decide +kernel
theorem dX4_count_36 : decode cX4_count 36 = .ok (.iload_n 1, 1) := by decide +kernel
theorem dX4_count_37 : decode cX4_count 37 = .ok (.tableswitch 133 0 13 #[71, 133, 133, 133, 133, 133, 133, 133, 133, 79, 87, 102, 117, 125], 71) := by decide +kernel
theorem dX4_count_108 : decode cX4_count 108 = .ok (.aload_n 0, 1) := by decide +kernel
theorem dX4_count_109 : decode cX4_count 109 = .ok (.getfield 10, 3) := by decide +kernel
theorem dX4_count_112 : decode cX4_count 112 = .ok (.getfield 58, 3) := by decide +kernel
theorem dX4_count_115 : decode cX4_count 115 = .ok (.ireturn, 1) := by decide +kernel
theorem dX4_count_116 : decode cX4_count 116 = .ok (.aload_n 0, 1) := by decide +kernel
theorem dX4_count_117 : decode cX4_count 117 = .ok (.getfield 10, 3) := by decide +kernel
theorem dX4_count_120 : decode cX4_count 120 = .ok (.getfield 119, 3) := by decide +kernel
theorem dX4_count_123 : decode cX4_count 123 = .ok (.ireturn, 1) := by decide +kernel
theorem dX4_count_124 : decode cX4_count 124 = .ok (.aload_n 0, 1) := by decide +kernel
theorem dX4_count_125 : decode cX4_count 125 = .ok (.getfield 21, 3) := by decide +kernel
theorem dX4_count_128 : decode cX4_count 128 = .ok (.invokevirtual 140, 3) := by decide +kernel
theorem dX4_count_131 : decode cX4_count 131 = .ok (.aload_n 0, 1) := by decide +kernel
theorem dX4_count_132 : decode cX4_count 132 = .ok (.getfield 21, 3) := by decide +kernel
theorem dX4_count_135 : decode cX4_count 135 = .ok (.getfield 159, 3) := by decide +kernel
theorem dX4_count_138 : decode cX4_count 138 = .ok (.ireturn, 1) := by decide +kernel
theorem dX4_count_139 : decode cX4_count 139 = .ok (.aload_n 0, 1) := by decide +kernel
theorem dX4_count_140 : decode cX4_count 140 = .ok (.getfield 21, 3) := by decide +kernel
theorem dX4_count_143 : decode cX4_count 143 = .ok (.invokevirtual 140, 3) := by decide +kernel
theorem dX4_count_146 : decode cX4_count 146 = .ok (.aload_n 0, 1) := by decide +kernel
theorem dX4_count_147 : decode cX4_count 147 = .ok (.getfield 21, 3) := by decide +kernel
theorem dX4_count_150 : decode cX4_count 150 = .ok (.getfield 143, 3) := by decide +kernel
theorem dX4_count_153 : decode cX4_count 153 = .ok (.ireturn, 1) := by decide +kernel
theorem dX4_count_154 : decode cX4_count 154 = .ok (.aload_n 0, 1) := by decide +kernel
theorem dX4_count_155 : decode cX4_count 155 = .ok (.getfield 41, 3) := by decide +kernel
theorem dX4_count_158 : decode cX4_count 158 = .ok (.getfield 94, 3) := by decide +kernel
theorem dX4_count_161 : decode cX4_count 161 = .ok (.ireturn, 1) := by decide +kernel
theorem dX4_count_162 : decode cX4_count 162 = .ok (.aload_n 0, 1) := by decide +kernel
theorem dX4_count_163 : decode cX4_count 163 = .ok (.getfield 34, 3) := by decide +kernel
theorem dX4_count_166 : decode cX4_count 166 = .ok (.getfield 153, 3) := by decide +kernel
theorem dX4_count_169 : decode cX4_count 169 = .ok (.ireturn, 1) := by decide +kernel
theorem dX4_count_170 : decode cX4_count 170 = .ok (.aload_n 0, 1) := by decide +kernel
theorem dX4_count_171 : decode cX4_count 171 = .ok (.invokevirtual 162, 3) := by decide +kernel
theorem dX4_count_174 : decode cX4_count 174 = .ok (.ireturn, 1) := by decide +kernel
set_option maxRecDepth 20000 in
theorem ggX4_sleeper_X1_has : GoodIn wsX4_sleeper wsX1_has := goodIn_r _ [11, 12, 13, 14, 15, 92, 93, 94, 95, 96, 97, 98, 99, 100] (by decide +kernel) (by decide +kernel)
set_option maxRecDepth 20000 in
theorem gX4_sleeper_X1_has : GoodIn wsX4_sleeper (wsV RX4 80 RX1 yX1_has wsX1_has) := goodIn_app (goodIn_of _ (by decide +kernel)) ggX4_sleeper_X1_has
set_option maxRecDepth 20000 in
theorem ggX4_sleeper_X4_isWithin : GoodIn wsX4_sleeper wsX4_isWithin := goodIn_r _ [15] (by decide +kernel) (by decide +kernel)
set_option maxRecDepth 20000 in
theorem gX4_sleeper_X4_isWithin : GoodIn wsX4_sleeper (va_wsS RX4 53 yX4_isWithin wsX4_isWithin) := goodIn_app (goodIn_of _ (by decide +kernel)) ggX4_sleeper_X4_isWithin
set_option maxRecDepth 20000 in
theorem ggX4_sleeper_X4_surveyed : GoodIn wsX4_sleeper wsX4_surveyed := goodIn_r _ [20, 21, 22, 23, 24, 25, 26, 27, 28, 29, 30, 31, 32, 33, 34, 35, 36, 37, 38, 39, 40, 41, 42, 43, 44, 45, 46, 47, 48, 49, 50, 51, 52, 53, 54, 55, 56, 57, 58, 59, 60, 61, 62, 63, 64, 65, 66, 67, 13, 14, 15, 68, 69, 70, 71, 72, 73, 74, 75, 76, 77, 78, 79, 80, 81, 82, 83, 84, 85, 86, 87, 88, 89, 90, 91, 101, 102, 103, 104, 105, 106, 107, 108, 92, 93, 94, 95, 96, 97, 98, 99, 100] (by decide +kernel) (by decide +kernel)
set_option maxRecDepth 20000 in
theorem gX4_sleeper_X4_surveyed : GoodIn wsX4_sleeper (wsV RX4 172 RX4 yX4_surveyed wsX4_surveyed) := goodIn_app (goodIn_of _ (by decide +kernel)) ggX4_sleeper_X4_surveyed
theorem dX4_sleeper_0 : decode cX4_sleeper 0 = .ok (.aload_n 0, 1) := by decide +kernel
theorem dX4_sleeper_1 : decode cX4_sleeper 1 = .ok (.getfield 10, 3) := by decide +kernel
theorem dX4_sleeper_4 : decode cX4_sleeper 4 = .ok (.iload_n 1, 1) := by decide +kernel
theorem dX4_sleeper_5 : decode cX4_sleeper 5 = .ok (.invokevirtual 80, 3) := by decide +kernel
theorem dX4_sleeper_8 : decode cX4_sleeper 8 = .ok (.ifCond .eq 13, 3) := by decide +kernel
theorem dX4_sleeper_11 : decode cX4_sleeper 11 = .ok (.iload_n 2, 1) := by decide +kernel
theorem dX4_sleeper_12 : decode cX4_sleeper 12 = .ok (.iconst 0, 1) := by decide +kernel
theorem dX4_sleeper_13 : decode cX4_sleeper 13 = .ok (.bipush 9, 2) := by decide +kernel
theorem dX4_sleeper_15 : decode cX4_sleeper 15 = .ok (.invokestatic 53, 3) := by decide +kernel
theorem dX4_sleeper_18 : decode cX4_sleeper 18 = .ok (.ifCond .ne 6, 3) := by decide +kernel
theorem dX4_sleeper_21 : decode cX4_sleeper 21 = .ok (.ldc 57, 2) := by decide +kernel
theorem dX4_sleeper_23 : decode cX4_sleeper 23 = .ok (.ireturn, 1) := by decide +kernel
theorem dX4_sleeper_24 : decode cX4_sleeper 24 = .ok (.iload_n 2, 1) := by decide +kernel
theorem dX4_sleeper_25 : decode cX4_sleeper 25 = .ok (.tableswitch 95 0 9 #[55, 65, 95, 95, 95, 95, 95, 95, 75, 85], 55) := by decide +kernel
theorem dX4_sleeper_80 : decode cX4_sleeper 80 = .ok (.aload_n 0, 1) := by decide +kernel
theorem dX4_sleeper_81 : decode cX4_sleeper 81 = .ok (.getfield 10, 3) := by decide +kernel
theorem dX4_sleeper_84 : decode cX4_sleeper 84 = .ok (.getfield 87, 3) := by decide +kernel
theorem dX4_sleeper_87 : decode cX4_sleeper 87 = .ok (.iload_n 1, 1) := by decide +kernel
theorem dX4_sleeper_88 : decode cX4_sleeper 88 = .ok (.iaload, 1) := by decide +kernel
theorem dX4_sleeper_89 : decode cX4_sleeper 89 = .ok (.ireturn, 1) := by decide +kernel
theorem dX4_sleeper_90 : decode cX4_sleeper 90 = .ok (.aload_n 0, 1) := by decide +kernel
theorem dX4_sleeper_91 : decode cX4_sleeper 91 = .ok (.getfield 10, 3) := by decide +kernel
theorem dX4_sleeper_94 : decode cX4_sleeper 94 = .ok (.getfield 116, 3) := by decide +kernel
theorem dX4_sleeper_97 : decode cX4_sleeper 97 = .ok (.iload_n 1, 1) := by decide +kernel
theorem dX4_sleeper_98 : decode cX4_sleeper 98 = .ok (.iaload, 1) := by decide +kernel
theorem dX4_sleeper_99 : decode cX4_sleeper 99 = .ok (.ireturn, 1) := by decide +kernel
theorem dX4_sleeper_100 : decode cX4_sleeper 100 = .ok (.aload_n 0, 1) := by decide +kernel
theorem dX4_sleeper_101 : decode cX4_sleeper 101 = .ok (.getfield 10, 3) := by decide +kernel
theorem dX4_sleeper_104 : decode cX4_sleeper 104 = .ok (.getfield 166, 3) := by decide +kernel
theorem dX4_sleeper_107 : decode cX4_sleeper 107 = .ok (.iload_n 1, 1) := by decide +kernel
theorem dX4_sleeper_108 : decode cX4_sleeper 108 = .ok (.iaload, 1) := by decide +kernel
theorem dX4_sleeper_109 : decode cX4_sleeper 109 = .ok (.ireturn, 1) := by decide +kernel
theorem dX4_sleeper_110 : decode cX4_sleeper 110 = .ok (.aload_n 0, 1) := by decide +kernel
theorem dX4_sleeper_111 : decode cX4_sleeper 111 = .ok (.getfield 10, 3) := by decide +kernel
theorem dX4_sleeper_114 : decode cX4_sleeper 114 = .ok (.getfield 169, 3) := by decide +kernel
theorem dX4_sleeper_117 : decode cX4_sleeper 117 = .ok (.iload_n 1, 1) := by decide +kernel
theorem dX4_sleeper_118 : decode cX4_sleeper 118 = .ok (.iaload, 1) := by decide +kernel
theorem dX4_sleeper_119 : decode cX4_sleeper 119 = .ok (.ireturn, 1) := by decide +kernel
theorem dX4_sleeper_120 : decode cX4_sleeper 120 = .ok (.aload_n 0, 1) := by decide +kernel
theorem dX4_sleeper_121 : decode cX4_sleeper 121 = .ok (.iload_n 1, 1) := by decide +kernel
theorem dX4_sleeper_122 : decode cX4_sleeper 122 = .ok (.iload_n 2, 1) := by decide +kernel
theorem dX4_sleeper_123 : decode cX4_sleeper 123 = .ok (.invokevirtual 172, 3) := by decide +kernel
theorem dX4_sleeper_126 : decode cX4_sleeper 126 = .ok (.ireturn, 1) := by decide +kernel
set_option maxRecDepth 20000 in
theorem ggX4_job_X4_isWithin : GoodIn wsX4_job wsX4_isWithin := goodIn_r _ [8] (by decide +kernel) (by decide +kernel)
set_option maxRecDepth 20000 in
theorem gX4_job_X4_isWithin : GoodIn wsX4_job (va_wsS RX4 53 yX4_isWithin wsX4_isWithin) := goodIn_app (goodIn_of _ (by decide +kernel)) ggX4_job_X4_isWithin
set_option maxRecDepth 20000 in
theorem ggX4_job_X1_jobValue : GoodIn wsX4_job wsX1_jobValue := goodIn_r _ [13, 14, 23, 24, 25, 26, 27, 28, 29, 30, 31] (by decide +kernel) (by decide +kernel)
set_option maxRecDepth 20000 in
theorem gX4_job_X1_jobValue : GoodIn wsX4_job (wsV RX4 126 RX1 yX1_jobValue wsX1_jobValue) := goodIn_app (goodIn_of _ (by decide +kernel)) ggX4_job_X1_jobValue
theorem dX4_job_0 : decode cX4_job 0 = .ok (.iload_n 1, 1) := by decide +kernel
theorem dX4_job_1 : decode cX4_job 1 = .ok (.ifCond .lt 12, 3) := by decide +kernel
theorem dX4_job_4 : decode cX4_job 4 = .ok (.iload_n 2, 1) := by decide +kernel
theorem dX4_job_5 : decode cX4_job 5 = .ok (.iconst 0, 1) := by decide +kernel
theorem dX4_job_6 : decode cX4_job 6 = .ok (.iconst 3, 1) := by decide +kernel
theorem dX4_job_7 : decode cX4_job 7 = .ok (.invokestatic 53, 3) := by decide +kernel
theorem dX4_job_10 : decode cX4_job 10 = .ok (.ifCond .ne 6, 3) := by decide +kernel
theorem dX4_job_13 : decode cX4_job 13 = .ok (.ldc 57, 2) := by decide +kernel
theorem dX4_job_15 : decode cX4_job 15 = .ok (.ireturn, 1) := by decide +kernel
theorem dX4_job_16 : decode cX4_job 16 = .ok (.iload_n 1, 1) := by decide +kernel
theorem dX4_job_17 : decode cX4_job 17 = .ok (.aload_n 0, 1) := by decide +kernel
theorem dX4_job_18 : decode cX4_job 18 = .ok (.getfield 10, 3) := by decide +kernel
theorem dX4_job_21 : decode cX4_job 21 = .ok (.getfield 119, 3) := by decide +kernel
theorem dX4_job_24 : decode cX4_job 24 = .ok (.if_icmp .lt 6, 3) := by decide +kernel
theorem dX4_job_27 : decode cX4_job 27 = .ok (.ldc 175, 2) := by decide +kernel
theorem dX4_job_29 : decode cX4_job 29 = .ok (.ireturn, 1) := by decide +kernel
theorem dX4_job_30 : decode cX4_job 30 = .ok (.aload_n 0, 1) := by decide +kernel
theorem dX4_job_31 : decode cX4_job 31 = .ok (.getfield 10, 3) := by decide +kernel
theorem dX4_job_34 : decode cX4_job 34 = .ok (.iload_n 1, 1) := by decide +kernel
theorem dX4_job_35 : decode cX4_job 35 = .ok (.iload_n 2, 1) := by decide +kernel
theorem dX4_job_36 : decode cX4_job 36 = .ok (.invokevirtual 126, 3) := by decide +kernel
theorem dX4_job_39 : decode cX4_job 39 = .ok (.ireturn, 1) := by decide +kernel
set_option maxRecDepth 20000 in
theorem ggX4_account_X4_isWithin : GoodIn wsX4_account wsX4_isWithin := goodIn_r _ [7] (by decide +kernel) (by decide +kernel)
set_option maxRecDepth 20000 in
theorem gX4_account_X4_isWithin : GoodIn wsX4_account (va_wsS RX4 53 yX4_isWithin wsX4_isWithin) := goodIn_app (goodIn_of _ (by decide +kernel)) ggX4_account_X4_isWithin
theorem dX4_account_0 : decode cX4_account 0 = .ok (.iload_n 1, 1) := by decide +kernel
theorem dX4_account_1 : decode cX4_account 1 = .ok (.iconst 0, 1) := by decide +kernel
theorem dX4_account_2 : decode cX4_account 2 = .ok (.bipush 6, 2) := by decide +kernel
theorem dX4_account_4 : decode cX4_account 4 = .ok (.invokestatic 53, 3) := by decide +kernel
theorem dX4_account_7 : decode cX4_account 7 = .ok (.ifCond .ne 6, 3) := by decide +kernel
theorem dX4_account_10 : decode cX4_account 10 = .ok (.ldc 57, 2) := by decide +kernel
theorem dX4_account_12 : decode cX4_account 12 = .ok (.ireturn, 1) := by decide +kernel
theorem dX4_account_13 : decode cX4_account 13 = .ok (.aload_n 0, 1) := by decide +kernel
theorem dX4_account_14 : decode cX4_account 14 = .ok (.getfield 10, 3) := by decide +kernel
theorem dX4_account_17 : decode cX4_account 17 = .ok (.getfield 150, 3) := by decide +kernel
theorem dX4_account_20 : decode cX4_account 20 = .ok (.iload_n 1, 1) := by decide +kernel
theorem dX4_account_21 : decode cX4_account 21 = .ok (.iaload, 1) := by decide +kernel
theorem dX4_account_22 : decode cX4_account 22 = .ok (.ireturn, 1) := by decide +kernel
set_option maxRecDepth 20000 in
theorem ggX4_rail_X1_has : GoodIn wsX4_rail wsX1_has := goodIn_r _ [9, 10, 11, 12, 13, 81, 82, 83, 84, 85, 86, 87, 88, 89] (by decide +kernel) (by decide +kernel)
set_option maxRecDepth 20000 in
theorem gX4_rail_X1_has : GoodIn wsX4_rail (wsV RX4 80 RX1 yX1_has wsX1_has) := goodIn_app (goodIn_of _ (by decide +kernel)) ggX4_rail_X1_has
set_option maxRecDepth 20000 in
theorem ggX4_rail_X4_isWithin : GoodIn wsX4_rail wsX4_isWithin := goodIn_r _ [13] (by decide +kernel) (by decide +kernel)
set_option maxRecDepth 20000 in
theorem gX4_rail_X4_isWithin : GoodIn wsX4_rail (va_wsS RX4 53 yX4_isWithin wsX4_isWithin) := goodIn_app (goodIn_of _ (by decide +kernel)) ggX4_rail_X4_isWithin
set_option maxRecDepth 20000 in
theorem ggX4_rail_X2_greatestOfAll : GoodIn wsX4_rail wsX2_greatestOfAll := goodIn_r _ [19, 20, 21, 22, 23, 24, 25, 26, 27, 28, 29, 30, 73, 74, 75, 76, 77, 78, 79, 80, 81, 82, 83, 84, 85, 86, 87, 88, 89] (by decide +kernel) (by decide +kernel)
set_option maxRecDepth 20000 in
theorem gX4_rail_X2_greatestOfAll : GoodIn wsX4_rail (wsV RX4 176 RX2 yX2_greatestOfAll wsX2_greatestOfAll) := goodIn_app (goodIn_of _ (by decide +kernel)) ggX4_rail_X2_greatestOfAll
set_option maxRecDepth 20000 in
theorem ggX4_rail_X2_look : GoodIn wsX4_rail wsX2_look := goodIn_r _ [34, 35, 36, 37, 38, 39, 18, 40, 20, 23, 22, 21, 28, 29, 26, 30, 41, 42, 43, 44, 45, 46, 47, 48, 49, 50, 51, 52, 53, 54, 55, 56, 24, 25, 27, 57, 58, 59, 60, 11, 12, 13, 61, 62, 63, 64, 73, 74, 75, 76, 77, 78, 79, 80, 81, 82, 83, 84, 85, 86, 87, 88, 89] (by decide +kernel) (by decide +kernel)
set_option maxRecDepth 20000 in
theorem gX4_rail_X2_look : GoodIn wsX4_rail (wsV RX4 140 RX2 yX2_look wsX2_look) := goodIn_app (goodIn_of _ (by decide +kernel)) ggX4_rail_X2_look
theorem dX4_rail_0 : decode cX4_rail 0 = .ok (.aload_n 0, 1) := by decide +kernel
theorem dX4_rail_1 : decode cX4_rail 1 = .ok (.getfield 10, 3) := by decide +kernel
theorem dX4_rail_4 : decode cX4_rail 4 = .ok (.iload_n 1, 1) := by decide +kernel
theorem dX4_rail_5 : decode cX4_rail 5 = .ok (.invokevirtual 80, 3) := by decide +kernel
theorem dX4_rail_8 : decode cX4_rail 8 = .ok (.ifCond .eq 12, 3) := by decide +kernel
theorem dX4_rail_11 : decode cX4_rail 11 = .ok (.iload_n 2, 1) := by decide +kernel
theorem dX4_rail_12 : decode cX4_rail 12 = .ok (.iconst 0, 1) := by decide +kernel
theorem dX4_rail_13 : decode cX4_rail 13 = .ok (.iconst 1, 1) := by decide +kernel
theorem dX4_rail_14 : decode cX4_rail 14 = .ok (.invokestatic 53, 3) := by decide +kernel
theorem dX4_rail_17 : decode cX4_rail 17 = .ok (.ifCond .ne 6, 3) := by decide +kernel
theorem dX4_rail_20 : decode cX4_rail 20 = .ok (.ldc 57, 2) := by decide +kernel
theorem dX4_rail_22 : decode cX4_rail 22 = .ok (.ireturn, 1) := by decide +kernel
theorem dX4_rail_23 : decode cX4_rail 23 = .ok (.iload_n 2, 1) := by decide +kernel
theorem dX4_rail_24 : decode cX4_rail 24 = .ok (.iconst 1, 1) := by decide +kernel
theorem dX4_rail_25 : decode cX4_rail 25 = .ok (.if_icmp .ne 12, 3) := by decide +kernel
theorem dX4_rail_28 : decode cX4_rail 28 = .ok (.aload_n 0, 1) := by decide +kernel
theorem dX4_rail_29 : decode cX4_rail 29 = .ok (.getfield 21, 3) := by decide +kernel
theorem dX4_rail_32 : decode cX4_rail 32 = .ok (.iload_n 1, 1) := by decide +kernel
theorem dX4_rail_33 : decode cX4_rail 33 = .ok (.invokevirtual 176, 3) := by decide +kernel
theorem dX4_rail_36 : decode cX4_rail 36 = .ok (.ireturn, 1) := by decide +kernel
theorem dX4_rail_37 : decode cX4_rail 37 = .ok (.aload_n 0, 1) := by decide +kernel
theorem dX4_rail_38 : decode cX4_rail 38 = .ok (.getfield 21, 3) := by decide +kernel
theorem dX4_rail_41 : decode cX4_rail 41 = .ok (.invokevirtual 140, 3) := by decide +kernel
theorem dX4_rail_44 : decode cX4_rail 44 = .ok (.aload_n 0, 1) := by decide +kernel
theorem dX4_rail_45 : decode cX4_rail 45 = .ok (.getfield 21, 3) := by decide +kernel
theorem dX4_rail_48 : decode cX4_rail 48 = .ok (.getfield 179, 3) := by decide +kernel
theorem dX4_rail_51 : decode cX4_rail 51 = .ok (.iload_n 1, 1) := by decide +kernel
theorem dX4_rail_52 : decode cX4_rail 52 = .ok (.iaload, 1) := by decide +kernel
theorem dX4_rail_53 : decode cX4_rail 53 = .ok (.ireturn, 1) := by decide +kernel
set_option maxRecDepth 20000 in
theorem ggX4_why_X4_isWithin : GoodIn wsX4_why wsX4_isWithin := goodIn_r _ [10] (by decide +kernel) (by decide +kernel)
set_option maxRecDepth 20000 in
theorem gX4_why_X4_isWithin : GoodIn wsX4_why (va_wsS RX4 53 yX4_isWithin wsX4_isWithin) := goodIn_app (goodIn_of _ (by decide +kernel)) ggX4_why_X4_isWithin
set_option maxRecDepth 20000 in
theorem ggX4_why_X2_look : GoodIn wsX4_why wsX2_look := goodIn_r _ [15, 16, 17, 18, 19, 20, 14, 21, 22, 23, 24, 25, 26, 27, 28, 29, 30, 31, 32, 33, 34, 35, 36, 37, 38, 39, 40, 41, 42, 43, 44, 45, 46, 47, 48, 49, 50, 51, 52, 8, 9, 10, 53, 54, 55, 56, 65, 66, 67, 68, 69, 70, 71, 72, 73, 74, 75, 76, 77, 78, 79, 80, 81] (by decide +kernel) (by decide +kernel)
set_option maxRecDepth 20000 in
theorem gX4_why_X2_look : GoodIn wsX4_why (wsV RX4 140 RX2 yX2_look wsX2_look) := goodIn_app (goodIn_of _ (by decide +kernel)) ggX4_why_X2_look
theorem dX4_why_0 : decode cX4_why 0 = .ok (.iload_n 1, 1) := by decide +kernel
theorem dX4_why_1 : decode cX4_why 1 = .ok (.iconst 0, 1) := by decide +kernel
theorem dX4_why_2 : decode cX4_why 2 = .ok (.iconst 1, 1) := by decide +kernel
theorem dX4_why_3 : decode cX4_why 3 = .ok (.invokestatic 53, 3) := by decide +kernel
theorem dX4_why_6 : decode cX4_why 6 = .ok (.ifCond .ne 6, 3) := by decide +kernel
theorem dX4_why_9 : decode cX4_why 9 = .ok (.ldc 57, 2) := by decide +kernel
theorem dX4_why_11 : decode cX4_why 11 = .ok (.ireturn, 1) := by decide +kernel
theorem dX4_why_12 : decode cX4_why 12 = .ok (.aload_n 0, 1) := by decide +kernel
theorem dX4_why_13 : decode cX4_why 13 = .ok (.getfield 21, 3) := by decide +kernel
theorem dX4_why_16 : decode cX4_why 16 = .ok (.invokevirtual 140, 3) := by decide +kernel
theorem dX4_why_19 : decode cX4_why 19 = .ok (.aload_n 0, 1) := by decide +kernel
theorem dX4_why_20 : decode cX4_why 20 = .ok (.getfield 21, 3) := by decide +kernel
theorem dX4_why_23 : decode cX4_why 23 = .ok (.getfield 143, 3) := by decide +kernel
theorem dX4_why_26 : decode cX4_why 26 = .ok (.ifCond .ne 6, 3) := by decide +kernel
theorem dX4_why_29 : decode cX4_why 29 = .ok (.ldc 175, 2) := by decide +kernel
theorem dX4_why_31 : decode cX4_why 31 = .ok (.ireturn, 1) := by decide +kernel
theorem dX4_why_32 : decode cX4_why 32 = .ok (.iload_n 1, 1) := by decide +kernel
theorem dX4_why_33 : decode cX4_why 33 = .ok (.ifCond .ne 13, 3) := by decide +kernel
theorem dX4_why_36 : decode cX4_why 36 = .ok (.aload_n 0, 1) := by decide +kernel
theorem dX4_why_37 : decode cX4_why 37 = .ok (.getfield 21, 3) := by decide +kernel
theorem dX4_why_40 : decode cX4_why 40 = .ok (.getfield 182, 3) := by decide +kernel
theorem dX4_why_43 : decode cX4_why 43 = .ok (.goto 10, 3) := by decide +kernel
theorem dX4_why_46 : decode cX4_why 46 = .ok (.aload_n 0, 1) := by decide +kernel
theorem dX4_why_47 : decode cX4_why 47 = .ok (.getfield 21, 3) := by decide +kernel
theorem dX4_why_50 : decode cX4_why 50 = .ok (.getfield 185, 3) := by decide +kernel
theorem dX4_why_53 : decode cX4_why 53 = .ok (.ireturn, 1) := by decide +kernel
set_option maxRecDepth 20000 in
theorem ggX4_trainsUntil_X4_isTrain : GoodIn wsX4_trainsUntil wsX4_isTrain := goodIn_r _ [10, 11, 12, 9, 13] (by decide +kernel) (by decide +kernel)
set_option maxRecDepth 20000 in
theorem gX4_trainsUntil_X4_isTrain : GoodIn wsX4_trainsUntil (va_wsS RX4 137 yX4_isTrain wsX4_isTrain) := goodIn_app (goodIn_of _ (by decide +kernel)) ggX4_trainsUntil_X4_isTrain
set_option maxRecDepth 20000 in
theorem ggX4_trainsUntil_X4_isWithin : GoodIn wsX4_trainsUntil wsX4_isWithin := goodIn_r _ [13] (by decide +kernel) (by decide +kernel)
set_option maxRecDepth 20000 in
theorem gX4_trainsUntil_X4_isWithin : GoodIn wsX4_trainsUntil (va_wsS RX4 53 yX4_isWithin wsX4_isWithin) := goodIn_app (goodIn_of _ (by decide +kernel)) ggX4_trainsUntil_X4_isWithin
set_option maxRecDepth 20000 in
theorem ggX4_trainsUntil_X1_copyFrom : GoodIn wsX4_trainsUntil wsX1_copyFrom := goodIn_r _ [18, 19, 20, 21, 22, 23, 24, 25, 26, 27, 28, 29, 30, 31, 133, 134, 135, 136, 137, 138, 139, 140, 141] (by decide +kernel) (by decide +kernel)
set_option maxRecDepth 20000 in
theorem gX4_trainsUntil_X1_copyFrom : GoodIn wsX4_trainsUntil (wsV RX4 101 RX1 yX1_copyFrom wsX1_copyFrom) := goodIn_app (goodIn_of _ (by decide +kernel)) ggX4_trainsUntil_X1_copyFrom
set_option maxRecDepth 20000 in
theorem ggX4_trainsUntil_X2_look : GoodIn wsX4_trainsUntil wsX2_look := goodIn_r _ [36, 37, 38, 39, 40, 41, 35, 42, 43, 44, 45, 46, 47, 48, 49, 50, 51, 52, 53, 54, 55, 56, 57, 58, 59, 60, 61, 62, 63, 64, 65, 66, 67, 68, 69, 70, 71, 72, 73, 12, 9, 13, 74, 75, 76, 77, 125, 126, 127, 128, 129, 130, 131, 132, 133, 134, 135, 136, 137, 138, 139, 140, 141] (by decide +kernel) (by decide +kernel)
set_option maxRecDepth 20000 in
theorem gX4_trainsUntil_X2_look : GoodIn wsX4_trainsUntil (wsV RX4 140 RX2 yX2_look wsX2_look) := goodIn_app (goodIn_of _ (by decide +kernel)) ggX4_trainsUntil_X2_look
set_option maxRecDepth 20000 in
theorem ggX4_trainsUntil_X4_passTrain : GoodIn wsX4_trainsUntil wsX4_passTrain := goodIn_r _ [80, 81, 82, 83, 84, 5, 85, 86, 87, 35, 88, 43, 45, 57, 89, 90, 91, 92, 93, 94, 95, 96, 17, 97, 27, 98, 99, 49, 100, 101, 102, 9, 103, 104, 105, 106, 107, 108, 109, 110, 111, 112, 113, 26, 28, 31, 114, 115, 116, 32, 33, 34, 36, 37, 38, 39, 40, 41, 42, 44, 46, 47, 48, 50, 51, 52, 53, 54, 55, 56, 58, 59, 60, 61, 62, 63, 64, 65, 66, 67, 68, 69, 70, 71, 72, 73, 12, 13, 74, 75, 76, 77, 125, 126, 127, 128, 129, 130, 131, 132, 133, 134, 135, 136, 137, 138, 139, 140, 141] (by decide +kernel) (by decide +kernel)
set_option maxRecDepth 20000 in
theorem gX4_trainsUntil_X4_passTrain : GoodIn wsX4_trainsUntil (va_wsS RX4 146 yX4_passTrain wsX4_passTrain) := goodIn_app (goodIn_of _ (by decide +kernel)) ggX4_trainsUntil_X4_passTrain
theorem dX4_trainsUntil_0 : decode cX4_trainsUntil 0 = .ok (.iload_n 1, 1) := by decide +kernel
theorem dX4_trainsUntil_1 : decode cX4_trainsUntil 1 = .ok (.iload_n 2, 1) := by decide +kernel
theorem dX4_trainsUntil_2 : decode cX4_trainsUntil 2 = .ok (.invokestatic 137, 3) := by decide +kernel
theorem dX4_trainsUntil_5 : decode cX4_trainsUntil 5 = .ok (.ifCond .eq 12, 3) := by decide +kernel
theorem dX4_trainsUntil_8 : decode cX4_trainsUntil 8 = .ok (.iload_n 3, 1) := by decide +kernel
theorem dX4_trainsUntil_9 : decode cX4_trainsUntil 9 = .ok (.iconst 1, 1) := by decide +kernel
theorem dX4_trainsUntil_10 : decode cX4_trainsUntil 10 = .ok (.iconst 3, 1) := by decide +kernel
theorem dX4_trainsUntil_11 : decode cX4_trainsUntil 11 = .ok (.invokestatic 53, 3) := by decide +kernel
theorem dX4_trainsUntil_14 : decode cX4_trainsUntil 14 = .ok (.ifCond .ne 6, 3) := by decide +kernel
theorem dX4_trainsUntil_17 : decode cX4_trainsUntil 17 = .ok (.ldc 57, 2) := by decide +kernel
theorem dX4_trainsUntil_19 : decode cX4_trainsUntil 19 = .ok (.ireturn, 1) := by decide +kernel
theorem dX4_trainsUntil_20 : decode cX4_trainsUntil 20 = .ok (.aload_n 0, 1) := by decide +kernel
theorem dX4_trainsUntil_21 : decode cX4_trainsUntil 21 = .ok (.getfield 25, 3) := by decide +kernel
theorem dX4_trainsUntil_24 : decode cX4_trainsUntil 24 = .ok (.aload_n 0, 1) := by decide +kernel
theorem dX4_trainsUntil_25 : decode cX4_trainsUntil 25 = .ok (.getfield 10, 3) := by decide +kernel
theorem dX4_trainsUntil_28 : decode cX4_trainsUntil 28 = .ok (.invokevirtual 101, 3) := by decide +kernel
theorem dX4_trainsUntil_31 : decode cX4_trainsUntil 31 = .ok (.aload_n 0, 1) := by decide +kernel
theorem dX4_trainsUntil_32 : decode cX4_trainsUntil 32 = .ok (.getfield 28, 3) := by decide +kernel
theorem dX4_trainsUntil_35 : decode cX4_trainsUntil 35 = .ok (.invokevirtual 140, 3) := by decide +kernel
theorem dX4_trainsUntil_38 : decode cX4_trainsUntil 38 = .ok (.iconst 0, 1) := by decide +kernel
theorem dX4_trainsUntil_39 : decode cX4_trainsUntil 39 = .ok (.istore 4, 2) := by decide +kernel
theorem dX4_trainsUntil_41 : decode cX4_trainsUntil 41 = .ok (.iload 4, 2) := by decide +kernel
theorem dX4_trainsUntil_43 : decode cX4_trainsUntil 43 = .ok (.sipush 200, 3) := by decide +kernel
theorem dX4_trainsUntil_46 : decode cX4_trainsUntil 46 = .ok (.if_icmp .ge 29, 3) := by decide +kernel
theorem dX4_trainsUntil_49 : decode cX4_trainsUntil 49 = .ok (.aload_n 0, 1) := by decide +kernel
theorem dX4_trainsUntil_50 : decode cX4_trainsUntil 50 = .ok (.getfield 28, 3) := by decide +kernel
theorem dX4_trainsUntil_53 : decode cX4_trainsUntil 53 = .ok (.getfield 143, 3) := by decide +kernel
theorem dX4_trainsUntil_56 : decode cX4_trainsUntil 56 = .ok (.iload_n 3, 1) := by decide +kernel
theorem dX4_trainsUntil_57 : decode cX4_trainsUntil 57 = .ok (.if_icmp .ge 18, 3) := by decide +kernel
theorem dX4_trainsUntil_60 : decode cX4_trainsUntil 60 = .ok (.aload_n 0, 1) := by decide +kernel
theorem dX4_trainsUntil_61 : decode cX4_trainsUntil 61 = .ok (.getfield 28, 3) := by decide +kernel
theorem dX4_trainsUntil_64 : decode cX4_trainsUntil 64 = .ok (.iload_n 1, 1) := by decide +kernel
theorem dX4_trainsUntil_65 : decode cX4_trainsUntil 65 = .ok (.iload_n 2, 1) := by decide +kernel
theorem dX4_trainsUntil_66 : decode cX4_trainsUntil 66 = .ok (.invokestatic 146, 3) := by decide +kernel
theorem dX4_trainsUntil_69 : decode cX4_trainsUntil 69 = .ok (.iinc 4 1, 3) := by decide +kernel
theorem dX4_trainsUntil_72 : decode cX4_trainsUntil 72 = .ok (.goto (-31), 3) := by decide +kernel
theorem dX4_trainsUntil_75 : decode cX4_trainsUntil 75 = .ok (.aload_n 0, 1) := by decide +kernel
theorem dX4_trainsUntil_76 : decode cX4_trainsUntil 76 = .ok (.getfield 28, 3) := by decide +kernel
theorem dX4_trainsUntil_79 : decode cX4_trainsUntil 79 = .ok (.getfield 143, 3) := by decide +kernel
theorem dX4_trainsUntil_82 : decode cX4_trainsUntil 82 = .ok (.iload_n 3, 1) := by decide +kernel
theorem dX4_trainsUntil_83 : decode cX4_trainsUntil 83 = .ok (.if_icmp .lt 8, 3) := by decide +kernel
theorem dX4_trainsUntil_86 : decode cX4_trainsUntil 86 = .ok (.iload 4, 2) := by decide +kernel
theorem dX4_trainsUntil_88 : decode cX4_trainsUntil 88 = .ok (.goto 5, 3) := by decide +kernel
theorem dX4_trainsUntil_91 : decode cX4_trainsUntil 91 = .ok (.ldc 175, 2) := by decide +kernel
theorem dX4_trainsUntil_93 : decode cX4_trainsUntil 93 = .ok (.ireturn, 1) := by decide +kernel
theorem dX4_isWithin_0 : decode cX4_isWithin 0 = .ok (.iload_n 0, 1) := by decide +kernel
theorem dX4_isWithin_1 : decode cX4_isWithin 1 = .ok (.iload_n 1, 1) := by decide +kernel
theorem dX4_isWithin_2 : decode cX4_isWithin 2 = .ok (.if_icmp .lt 12, 3) := by decide +kernel
theorem dX4_isWithin_5 : decode cX4_isWithin 5 = .ok (.iload_n 0, 1) := by decide +kernel
theorem dX4_isWithin_6 : decode cX4_isWithin 6 = .ok (.iload_n 2, 1) := by decide +kernel
theorem dX4_isWithin_7 : decode cX4_isWithin 7 = .ok (.if_icmp .gt 7, 3) := by decide +kernel
theorem dX4_isWithin_10 : decode cX4_isWithin 10 = .ok (.iconst 1, 1) := by decide +kernel
theorem dX4_isWithin_11 : decode cX4_isWithin 11 = .ok (.goto 4, 3) := by decide +kernel
theorem dX4_isWithin_14 : decode cX4_isWithin 14 = .ok (.iconst 0, 1) := by decide +kernel
theorem dX4_isWithin_15 : decode cX4_isWithin 15 = .ok (.ireturn, 1) := by decide +kernel
set_option maxRecDepth 20000 in
theorem ggX4_isLevel_X4_isWithin : GoodIn wsX4_isLevel wsX4_isWithin := goodIn_r _ [4] (by decide +kernel) (by decide +kernel)
set_option maxRecDepth 20000 in
theorem gX4_isLevel_X4_isWithin : GoodIn wsX4_isLevel (va_wsS RX4 53 yX4_isWithin wsX4_isWithin) := goodIn_app (goodIn_of _ (by decide +kernel)) ggX4_isLevel_X4_isWithin
theorem dX4_isLevel_0 : decode cX4_isLevel 0 = .ok (.iload_n 0, 1) := by decide +kernel
theorem dX4_isLevel_1 : decode cX4_isLevel 1 = .ok (.sipush (-9999), 3) := by decide +kernel
theorem dX4_isLevel_4 : decode cX4_isLevel 4 = .ok (.sipush 9999, 3) := by decide +kernel
theorem dX4_isLevel_7 : decode cX4_isLevel 7 = .ok (.invokestatic 53, 3) := by decide +kernel
theorem dX4_isLevel_10 : decode cX4_isLevel 10 = .ok (.ireturn, 1) := by decide +kernel
set_option maxRecDepth 20000 in
theorem ggX4_isTrain_X4_isWithin : GoodIn wsX4_isTrain wsX4_isWithin := goodIn_r _ [4] (by decide +kernel) (by decide +kernel)
set_option maxRecDepth 20000 in
theorem gX4_isTrain_X4_isWithin : GoodIn wsX4_isTrain (va_wsS RX4 53 yX4_isWithin wsX4_isWithin) := goodIn_app (goodIn_of _ (by decide +kernel)) ggX4_isTrain_X4_isWithin
theorem dX4_isTrain_0 : decode cX4_isTrain 0 = .ok (.iload_n 0, 1) := by decide +kernel
theorem dX4_isTrain_1 : decode cX4_isTrain 1 = .ok (.iconst 1, 1) := by decide +kernel
theorem dX4_isTrain_2 : decode cX4_isTrain 2 = .ok (.sipush 200, 3) := by decide +kernel
theorem dX4_isTrain_5 : decode cX4_isTrain 5 = .ok (.invokestatic 53, 3) := by decide +kernel
theorem dX4_isTrain_8 : decode cX4_isTrain 8 = .ok (.ifCond .eq 17, 3) := by decide +kernel
theorem dX4_isTrain_11 : decode cX4_isTrain 11 = .ok (.iload_n 1, 1) := by decide +kernel
theorem dX4_isTrain_12 : decode cX4_isTrain 12 = .ok (.iconst 1, 1) := by decide +kernel
theorem dX4_isTrain_13 : decode cX4_isTrain 13 = .ok (.bipush 30, 2) := by decide +kernel
theorem dX4_isTrain_15 : decode cX4_isTrain 15 = .ok (.invokestatic 53, 3) := by decide +kernel
theorem dX4_isTrain_18 : decode cX4_isTrain 18 = .ok (.ifCond .eq 7, 3) := by decide +kernel
theorem dX4_isTrain_21 : decode cX4_isTrain 21 = .ok (.iconst 1, 1) := by decide +kernel
theorem dX4_isTrain_22 : decode cX4_isTrain 22 = .ok (.goto 4, 3) := by decide +kernel
theorem dX4_isTrain_25 : decode cX4_isTrain 25 = .ok (.iconst 0, 1) := by decide +kernel
theorem dX4_isTrain_26 : decode cX4_isTrain 26 = .ok (.ireturn, 1) := by decide +kernel
set_option maxRecDepth 20000 in
theorem ggX4_isStretch_X1_has : GoodIn wsX4_isStretch wsX1_has := goodIn_r _ [6, 7, 8, 9, 10, 19, 20, 21, 22, 23, 24, 25, 26, 27] (by decide +kernel) (by decide +kernel)
set_option maxRecDepth 20000 in
theorem gX4_isStretch_X1_has : GoodIn wsX4_isStretch (wsV RX4 80 RX1 yX1_has wsX1_has) := goodIn_app (goodIn_of _ (by decide +kernel)) ggX4_isStretch_X1_has
theorem dX4_isStretch_0 : decode cX4_isStretch 0 = .ok (.aload_n 0, 1) := by decide +kernel
theorem dX4_isStretch_1 : decode cX4_isStretch 1 = .ok (.getfield 10, 3) := by decide +kernel
theorem dX4_isStretch_4 : decode cX4_isStretch 4 = .ok (.iload_n 1, 1) := by decide +kernel
theorem dX4_isStretch_5 : decode cX4_isStretch 5 = .ok (.invokevirtual 80, 3) := by decide +kernel
theorem dX4_isStretch_8 : decode cX4_isStretch 8 = .ok (.ifCond .eq 23, 3) := by decide +kernel
theorem dX4_isStretch_11 : decode cX4_isStretch 11 = .ok (.aload_n 0, 1) := by decide +kernel
theorem dX4_isStretch_12 : decode cX4_isStretch 12 = .ok (.getfield 10, 3) := by decide +kernel
theorem dX4_isStretch_15 : decode cX4_isStretch 15 = .ok (.iload_n 2, 1) := by decide +kernel
theorem dX4_isStretch_16 : decode cX4_isStretch 16 = .ok (.invokevirtual 80, 3) := by decide +kernel
theorem dX4_isStretch_19 : decode cX4_isStretch 19 = .ok (.ifCond .eq 12, 3) := by decide +kernel
theorem dX4_isStretch_22 : decode cX4_isStretch 22 = .ok (.iload_n 1, 1) := by decide +kernel
theorem dX4_isStretch_23 : decode cX4_isStretch 23 = .ok (.iload_n 2, 1) := by decide +kernel
theorem dX4_isStretch_24 : decode cX4_isStretch 24 = .ok (.if_icmp .gt 7, 3) := by decide +kernel
theorem dX4_isStretch_27 : decode cX4_isStretch 27 = .ok (.iconst 1, 1) := by decide +kernel
theorem dX4_isStretch_28 : decode cX4_isStretch 28 = .ok (.goto 4, 3) := by decide +kernel
theorem dX4_isStretch_31 : decode cX4_isStretch 31 = .ok (.iconst 0, 1) := by decide +kernel
theorem dX4_isStretch_32 : decode cX4_isStretch 32 = .ok (.ireturn, 1) := by decide +kernel
theorem dX4_leastNumber_0 : decode cX4_leastNumber 0 = .ok (.iload_n 1, 1) := by decide +kernel
theorem dX4_leastNumber_1 : decode cX4_leastNumber 1 = .ok (.iconst 4, 1) := by decide +kernel
theorem dX4_leastNumber_2 : decode cX4_leastNumber 2 = .ok (.if_icmp .eq 8, 3) := by decide +kernel
theorem dX4_leastNumber_5 : decode cX4_leastNumber 5 = .ok (.iload_n 1, 1) := by decide +kernel
theorem dX4_leastNumber_6 : decode cX4_leastNumber 6 = .ok (.iconst 5, 1) := by decide +kernel
theorem dX4_leastNumber_7 : decode cX4_leastNumber 7 = .ok (.if_icmp .ne 17, 3) := by decide +kernel
theorem dX4_leastNumber_10 : decode cX4_leastNumber 10 = .ok (.aload_n 0, 1) := by decide +kernel
theorem dX4_leastNumber_11 : decode cX4_leastNumber 11 = .ok (.getfield 10, 3) := by decide +kernel
theorem dX4_leastNumber_14 : decode cX4_leastNumber 14 = .ok (.getfield 76, 3) := by decide +kernel
theorem dX4_leastNumber_17 : decode cX4_leastNumber 17 = .ok (.iload_n 1, 1) := by decide +kernel
theorem dX4_leastNumber_18 : decode cX4_leastNumber 18 = .ok (.iconst 1, 1) := by decide +kernel
theorem dX4_leastNumber_19 : decode cX4_leastNumber 19 = .ok (.isub, 1) := by decide +kernel
theorem dX4_leastNumber_20 : decode cX4_leastNumber 20 = .ok (.iaload, 1) := by decide +kernel
theorem dX4_leastNumber_21 : decode cX4_leastNumber 21 = .ok (.iconst 1, 1) := by decide +kernel
theorem dX4_leastNumber_22 : decode cX4_leastNumber 22 = .ok (.iadd, 1) := by decide +kernel
theorem dX4_leastNumber_23 : decode cX4_leastNumber 23 = .ok (.ireturn, 1) := by decide +kernel
theorem dX4_leastNumber_24 : decode cX4_leastNumber 24 = .ok (.getstatic 201, 3) := by decide +kernel
theorem dX4_leastNumber_27 : decode cX4_leastNumber 27 = .ok (.iload_n 1, 1) := by decide +kernel
theorem dX4_leastNumber_28 : decode cX4_leastNumber 28 = .ok (.iaload, 1) := by decide +kernel
theorem dX4_leastNumber_29 : decode cX4_leastNumber 29 = .ok (.ireturn, 1) := by decide +kernel
theorem dX4_greatestNumber_0 : decode cX4_greatestNumber 0 = .ok (.iload_n 1, 1) := by decide +kernel
theorem dX4_greatestNumber_1 : decode cX4_greatestNumber 1 = .ok (.iconst 3, 1) := by decide +kernel
theorem dX4_greatestNumber_2 : decode cX4_greatestNumber 2 = .ok (.if_icmp .eq 8, 3) := by decide +kernel
theorem dX4_greatestNumber_5 : decode cX4_greatestNumber 5 = .ok (.iload_n 1, 1) := by decide +kernel
theorem dX4_greatestNumber_6 : decode cX4_greatestNumber 6 = .ok (.iconst 4, 1) := by decide +kernel
theorem dX4_greatestNumber_7 : decode cX4_greatestNumber 7 = .ok (.if_icmp .ne 17, 3) := by decide +kernel
theorem dX4_greatestNumber_10 : decode cX4_greatestNumber 10 = .ok (.aload_n 0, 1) := by decide +kernel
theorem dX4_greatestNumber_11 : decode cX4_greatestNumber 11 = .ok (.getfield 10, 3) := by decide +kernel
theorem dX4_greatestNumber_14 : decode cX4_greatestNumber 14 = .ok (.getfield 76, 3) := by decide +kernel
theorem dX4_greatestNumber_17 : decode cX4_greatestNumber 17 = .ok (.iload_n 1, 1) := by decide +kernel
theorem dX4_greatestNumber_18 : decode cX4_greatestNumber 18 = .ok (.iconst 1, 1) := by decide +kernel
theorem dX4_greatestNumber_19 : decode cX4_greatestNumber 19 = .ok (.iadd, 1) := by decide +kernel
theorem dX4_greatestNumber_20 : decode cX4_greatestNumber 20 = .ok (.iaload, 1) := by decide +kernel
theorem dX4_greatestNumber_21 : decode cX4_greatestNumber 21 = .ok (.iconst 1, 1) := by decide +kernel
theorem dX4_greatestNumber_22 : decode cX4_greatestNumber 22 = .ok (.isub, 1) := by decide +kernel
theorem dX4_greatestNumber_23 : decode cX4_greatestNumber 23 = .ok (.ireturn, 1) := by decide +kernel
theorem dX4_greatestNumber_24 : decode cX4_greatestNumber 24 = .ok (.getstatic 204, 3) := by decide +kernel
theorem dX4_greatestNumber_27 : decode cX4_greatestNumber 27 = .ok (.iload_n 1, 1) := by decide +kernel
theorem dX4_greatestNumber_28 : decode cX4_greatestNumber 28 = .ok (.iaload, 1) := by decide +kernel
theorem dX4_greatestNumber_29 : decode cX4_greatestNumber 29 = .ok (.ireturn, 1) := by decide +kernel
theorem dX4_keptMask_0 : decode cX4_keptMask 0 = .ok (.iconst 0, 1) := by decide +kernel
theorem dX4_keptMask_1 : decode cX4_keptMask 1 = .ok (.istore_n 1, 1) := by decide +kernel
theorem dX4_keptMask_2 : decode cX4_keptMask 2 = .ok (.iconst 0, 1) := by decide +kernel
theorem dX4_keptMask_3 : decode cX4_keptMask 3 = .ok (.istore_n 2, 1) := by decide +kernel
theorem dX4_keptMask_4 : decode cX4_keptMask 4 = .ok (.iload_n 2, 1) := by decide +kernel
theorem dX4_keptMask_5 : decode cX4_keptMask 5 = .ok (.iconst 2, 1) := by decide +kernel
theorem dX4_keptMask_6 : decode cX4_keptMask 6 = .ok (.if_icmp .ge 24, 3) := by decide +kernel
theorem dX4_keptMask_9 : decode cX4_keptMask 9 = .ok (.aload_n 0, 1) := by decide +kernel
theorem dX4_keptMask_10 : decode cX4_keptMask 10 = .ok (.getfield 49, 3) := by decide +kernel
theorem dX4_keptMask_13 : decode cX4_keptMask 13 = .ok (.iload_n 2, 1) := by decide +kernel
theorem dX4_keptMask_14 : decode cX4_keptMask 14 = .ok (.baload, 1) := by decide +kernel
theorem dX4_keptMask_15 : decode cX4_keptMask 15 = .ok (.ifCond .eq 9, 3) := by decide +kernel
theorem dX4_keptMask_18 : decode cX4_keptMask 18 = .ok (.iload_n 1, 1) := by decide +kernel
theorem dX4_keptMask_19 : decode cX4_keptMask 19 = .ok (.iconst 1, 1) := by decide +kernel
theorem dX4_keptMask_20 : decode cX4_keptMask 20 = .ok (.iload_n 2, 1) := by decide +kernel
theorem dX4_keptMask_21 : decode cX4_keptMask 21 = .ok (.ishl, 1) := by decide +kernel
theorem dX4_keptMask_22 : decode cX4_keptMask 22 = .ok (.ior, 1) := by decide +kernel
theorem dX4_keptMask_23 : decode cX4_keptMask 23 = .ok (.istore_n 1, 1) := by decide +kernel
theorem dX4_keptMask_24 : decode cX4_keptMask 24 = .ok (.iinc 2 1, 3) := by decide +kernel
theorem dX4_keptMask_27 : decode cX4_keptMask 27 = .ok (.goto (-23), 3) := by decide +kernel
theorem dX4_keptMask_30 : decode cX4_keptMask 30 = .ok (.iload_n 1, 1) := by decide +kernel
theorem dX4_keptMask_31 : decode cX4_keptMask 31 = .ok (.ireturn, 1) := by decide +kernel
set_option maxRecDepth 20000 in
theorem ggX4_surveyed_X2_look : GoodIn wsX4_surveyed wsX2_look := goodIn_r _ [13, 14, 15, 16, 17, 18, 12, 19, 20, 21, 22, 23, 24, 25, 7, 26, 27, 28, 29, 30, 31, 32, 33, 34, 35, 36, 37, 38, 39, 40, 41, 42, 43, 6, 8, 44, 45, 46, 47, 48, 49, 50, 51, 52, 53, 54, 75, 76, 77, 78, 79, 80, 81, 82, 83, 84, 85, 86, 87, 88, 89, 90, 91] (by decide +kernel) (by decide +kernel)
set_option maxRecDepth 20000 in
theorem gX4_surveyed_X2_look : GoodIn wsX4_surveyed (wsV RX4 140 RX2 yX2_look wsX2_look) := goodIn_app (goodIn_of _ (by decide +kernel)) ggX4_surveyed_X2_look
set_option maxRecDepth 20000 in
theorem ggX4_surveyed_X2_voidAt : GoodIn wsX4_surveyed wsX2_voidAt := goodIn_r _ [37, 27, 20, 23, 75, 76, 77, 78, 79, 80, 81, 82, 83, 84, 85, 86, 87, 88, 89, 90, 91] (by decide +kernel) (by decide +kernel)
set_option maxRecDepth 20000 in
theorem gX4_surveyed_X2_voidAt : GoodIn wsX4_surveyed (wsV RX4 207 RX2 yX2_voidAt wsX2_voidAt) := goodIn_app (goodIn_of _ (by decide +kernel)) ggX4_surveyed_X2_voidAt
set_option maxRecDepth 20000 in
theorem ggX4_surveyed_X2_findLoads : GoodIn wsX4_surveyed wsX2_findLoads := goodIn_r _ [59, 20, 22, 33, 60, 61, 62, 63, 12, 64, 75, 76, 77, 78, 79, 80, 81, 82, 83, 84, 85, 86, 87, 88, 89, 90, 91] (by decide +kernel) (by decide +kernel)
set_option maxRecDepth 20000 in
theorem gX4_surveyed_X2_findLoads : GoodIn wsX4_surveyed (wsV RX4 213 RX2 yX2_findLoads wsX2_findLoads) := goodIn_app (goodIn_of _ (by decide +kernel)) ggX4_surveyed_X2_findLoads
set_option maxRecDepth 20000 in
theorem ggX4_surveyed_X2_defectAt : GoodIn wsX4_surveyed wsX2_defectAt := goodIn_r _ [47, 20, 21, 22, 27, 48, 49, 50, 75, 76, 77, 78, 79, 80, 81, 82, 83, 84, 85, 86, 87, 88, 89, 90, 91] (by decide +kernel) (by decide +kernel)
set_option maxRecDepth 20000 in
theorem gX4_surveyed_X2_defectAt : GoodIn wsX4_surveyed (wsV RX4 219 RX2 yX2_defectAt wsX2_defectAt) := goodIn_app (goodIn_of _ (by decide +kernel)) ggX4_surveyed_X2_defectAt
set_option maxRecDepth 20000 in
theorem ggX4_surveyed_X2_orderOf : GoodIn wsX4_surveyed wsX2_orderOf := goodIn_r _ [54, 20, 21, 75, 76, 77, 78, 79, 80, 81, 82, 83, 84, 85, 86, 87, 88, 89, 90, 91] (by decide +kernel) (by decide +kernel)
set_option maxRecDepth 20000 in
theorem gX4_surveyed_X2_orderOf : GoodIn wsX4_surveyed (wsV RX4 225 RX2 yX2_orderOf wsX2_orderOf) := goodIn_app (goodIn_of _ (by decide +kernel)) ggX4_surveyed_X2_orderOf
theorem dX4_surveyed_0 : decode cX4_surveyed 0 = .ok (.aload_n 0, 1) := by decide +kernel
theorem dX4_surveyed_1 : decode cX4_surveyed 1 = .ok (.getfield 21, 3) := by decide +kernel
theorem dX4_surveyed_4 : decode cX4_surveyed 4 = .ok (.invokevirtual 140, 3) := by decide +kernel
theorem dX4_surveyed_7 : decode cX4_surveyed 7 = .ok (.iload_n 2, 1) := by decide +kernel
theorem dX4_surveyed_8 : decode cX4_surveyed 8 = .ok (.tableswitch 99 2 6 #[36, 46, 55, 73, 90], 36) := by decide +kernel
theorem dX4_surveyed_44 : decode cX4_surveyed 44 = .ok (.aload_n 0, 1) := by decide +kernel
theorem dX4_surveyed_45 : decode cX4_surveyed 45 = .ok (.getfield 21, 3) := by decide +kernel
theorem dX4_surveyed_48 : decode cX4_surveyed 48 = .ok (.getfield 179, 3) := by decide +kernel
theorem dX4_surveyed_51 : decode cX4_surveyed 51 = .ok (.iload_n 1, 1) := by decide +kernel
theorem dX4_surveyed_52 : decode cX4_surveyed 52 = .ok (.iaload, 1) := by decide +kernel
theorem dX4_surveyed_53 : decode cX4_surveyed 53 = .ok (.ireturn, 1) := by decide +kernel
theorem dX4_surveyed_54 : decode cX4_surveyed 54 = .ok (.aload_n 0, 1) := by decide +kernel
theorem dX4_surveyed_55 : decode cX4_surveyed 55 = .ok (.getfield 21, 3) := by decide +kernel
theorem dX4_surveyed_58 : decode cX4_surveyed 58 = .ok (.iload_n 1, 1) := by decide +kernel
theorem dX4_surveyed_59 : decode cX4_surveyed 59 = .ok (.invokevirtual 207, 3) := by decide +kernel
theorem dX4_surveyed_62 : decode cX4_surveyed 62 = .ok (.ireturn, 1) := by decide +kernel
theorem dX4_surveyed_63 : decode cX4_surveyed 63 = .ok (.aload_n 0, 1) := by decide +kernel
theorem dX4_surveyed_64 : decode cX4_surveyed 64 = .ok (.getfield 21, 3) := by decide +kernel
theorem dX4_surveyed_67 : decode cX4_surveyed 67 = .ok (.getfield 210, 3) := by decide +kernel
theorem dX4_surveyed_70 : decode cX4_surveyed 70 = .ok (.iload_n 1, 1) := by decide +kernel
theorem dX4_surveyed_71 : decode cX4_surveyed 71 = .ok (.baload, 1) := by decide +kernel
theorem dX4_surveyed_72 : decode cX4_surveyed 72 = .ok (.ifCond .eq 7, 3) := by decide +kernel
theorem dX4_surveyed_75 : decode cX4_surveyed 75 = .ok (.iconst 1, 1) := by decide +kernel
theorem dX4_surveyed_76 : decode cX4_surveyed 76 = .ok (.goto 4, 3) := by decide +kernel
theorem dX4_surveyed_79 : decode cX4_surveyed 79 = .ok (.iconst 0, 1) := by decide +kernel
theorem dX4_surveyed_80 : decode cX4_surveyed 80 = .ok (.ireturn, 1) := by decide +kernel
theorem dX4_surveyed_81 : decode cX4_surveyed 81 = .ok (.aload_n 0, 1) := by decide +kernel
theorem dX4_surveyed_82 : decode cX4_surveyed 82 = .ok (.getfield 21, 3) := by decide +kernel
theorem dX4_surveyed_85 : decode cX4_surveyed 85 = .ok (.invokevirtual 213, 3) := by decide +kernel
theorem dX4_surveyed_88 : decode cX4_surveyed 88 = .ok (.aload_n 0, 1) := by decide +kernel
theorem dX4_surveyed_89 : decode cX4_surveyed 89 = .ok (.getfield 21, 3) := by decide +kernel
theorem dX4_surveyed_92 : decode cX4_surveyed 92 = .ok (.getfield 216, 3) := by decide +kernel
theorem dX4_surveyed_95 : decode cX4_surveyed 95 = .ok (.iload_n 1, 1) := by decide +kernel
theorem dX4_surveyed_96 : decode cX4_surveyed 96 = .ok (.iaload, 1) := by decide +kernel
theorem dX4_surveyed_97 : decode cX4_surveyed 97 = .ok (.ireturn, 1) := by decide +kernel
theorem dX4_surveyed_98 : decode cX4_surveyed 98 = .ok (.aload_n 0, 1) := by decide +kernel
theorem dX4_surveyed_99 : decode cX4_surveyed 99 = .ok (.getfield 21, 3) := by decide +kernel
theorem dX4_surveyed_102 : decode cX4_surveyed 102 = .ok (.iload_n 1, 1) := by decide +kernel
theorem dX4_surveyed_103 : decode cX4_surveyed 103 = .ok (.invokevirtual 219, 3) := by decide +kernel
theorem dX4_surveyed_106 : decode cX4_surveyed 106 = .ok (.ireturn, 1) := by decide +kernel
theorem dX4_surveyed_107 : decode cX4_surveyed 107 = .ok (.aload_n 0, 1) := by decide +kernel
theorem dX4_surveyed_108 : decode cX4_surveyed 108 = .ok (.getfield 21, 3) := by decide +kernel
theorem dX4_surveyed_111 : decode cX4_surveyed 111 = .ok (.aload_n 0, 1) := by decide +kernel
theorem dX4_surveyed_112 : decode cX4_surveyed 112 = .ok (.getfield 21, 3) := by decide +kernel
theorem dX4_surveyed_115 : decode cX4_surveyed 115 = .ok (.iload_n 1, 1) := by decide +kernel
theorem dX4_surveyed_116 : decode cX4_surveyed 116 = .ok (.invokevirtual 219, 3) := by decide +kernel
theorem dX4_surveyed_119 : decode cX4_surveyed 119 = .ok (.invokestatic 222, 3) := by decide +kernel
theorem dX4_surveyed_122 : decode cX4_surveyed 122 = .ok (.invokevirtual 225, 3) := by decide +kernel
theorem dX4_surveyed_125 : decode cX4_surveyed 125 = .ok (.ireturn, 1) := by decide +kernel
set_option maxRecDepth 20000 in
theorem ggX4_passTrain_X2_findLoads : GoodIn wsX4_passTrain wsX2_findLoads := goodIn_r _ [10, 11, 12, 13, 14, 15, 16, 17, 9, 18, 92, 93, 94, 95, 96, 97, 98, 99, 100, 101, 102, 103, 104, 105, 106, 107, 108] (by decide +kernel) (by decide +kernel)
set_option maxRecDepth 20000 in
theorem gX4_passTrain_X2_findLoads : GoodIn wsX4_passTrain (wsV RX4 213 RX2 yX2_findLoads wsX2_findLoads) := goodIn_app (goodIn_of _ (by decide +kernel)) ggX4_passTrain_X2_findLoads
set_option maxRecDepth 20000 in
theorem ggX4_passTrain_X1_foul : GoodIn wsX4_passTrain wsX1_foul := goodIn_r _ [23, 24, 25, 26, 27, 28, 100, 101, 102, 103, 104, 105, 106, 107, 108] (by decide +kernel) (by decide +kernel)
set_option maxRecDepth 20000 in
theorem gX4_passTrain_X1_foul : GoodIn wsX4_passTrain (wsV RX4 237 RX1 yX1_foul wsX1_foul) := goodIn_app (goodIn_of _ (by decide +kernel)) ggX4_passTrain_X1_foul
set_option maxRecDepth 20000 in
theorem ggX4_passTrain_X4_settlement : GoodIn wsX4_passTrain wsX4_settlement := goodIn_r _ [32, 33, 1, 34, 5, 35, 36, 37, 31, 38, 92, 93, 94, 95, 96, 97, 98, 99, 100, 101, 102, 103, 104, 105, 106, 107, 108] (by decide +kernel) (by decide +kernel)
set_option maxRecDepth 20000 in
theorem gX4_passTrain_X4_settlement : GoodIn wsX4_passTrain (va_wsS RX4 240 yX4_settlement wsX4_settlement) := goodIn_app (goodIn_of _ (by decide +kernel)) ggX4_passTrain_X4_settlement
set_option maxRecDepth 20000 in
theorem ggX4_passTrain_X1_settle : GoodIn wsX4_passTrain wsX1_settle := goodIn_r _ [42, 43, 25, 26, 27, 28, 44, 45, 100, 101, 102, 103, 104, 105, 106, 107, 108] (by decide +kernel) (by decide +kernel)
set_option maxRecDepth 20000 in
theorem gX4_passTrain_X1_settle : GoodIn wsX4_passTrain (wsV RX4 244 RX1 yX1_settle wsX1_settle) := goodIn_app (goodIn_of _ (by decide +kernel)) ggX4_passTrain_X1_settle
set_option maxRecDepth 20000 in
theorem ggX4_passTrain_X4_minutesLostBy : GoodIn wsX4_passTrain wsX4_minutesLostBy := goodIn_r _ [48] (by decide +kernel) (by decide +kernel)
set_option maxRecDepth 20000 in
theorem gX4_passTrain_X4_minutesLostBy : GoodIn wsX4_passTrain (va_wsS RX4 247 yX4_minutesLostBy wsX4_minutesLostBy) := goodIn_app (goodIn_of _ (by decide +kernel)) ggX4_passTrain_X4_minutesLostBy
set_option maxRecDepth 20000 in
theorem ggX4_passTrain_X2_look : GoodIn wsX4_passTrain wsX2_look := goodIn_r _ [52, 53, 54, 55, 56, 57, 9, 58, 11, 59, 12, 60, 61, 62, 27, 63, 64, 65, 66, 67, 68, 69, 13, 70, 71, 72, 73, 74, 75, 76, 77, 78, 79, 80, 81, 82, 83, 84, 85, 86, 31, 87, 88, 89, 90, 91, 92, 93, 94, 95, 96, 97, 98, 99, 100, 101, 102, 103, 104, 105, 106, 107, 108] (by decide +kernel) (by decide +kernel)
set_option maxRecDepth 20000 in
theorem gX4_passTrain_X2_look : GoodIn wsX4_passTrain (wsV RX4 140 RX2 yX2_look wsX2_look) := goodIn_app (goodIn_of _ (by decide +kernel)) ggX4_passTrain_X2_look
theorem dX4_passTrain_0 : decode cX4_passTrain 0 = .ok (.aload_n 0, 1) := by decide +kernel
theorem dX4_passTrain_1 : decode cX4_passTrain 1 = .ok (.getfield 234, 3) := by decide +kernel
theorem dX4_passTrain_4 : decode cX4_passTrain 4 = .ok (.astore_n 3, 1) := by decide +kernel
theorem dX4_passTrain_5 : decode cX4_passTrain 5 = .ok (.aload_n 0, 1) := by decide +kernel
theorem dX4_passTrain_6 : decode cX4_passTrain 6 = .ok (.invokevirtual 213, 3) := by decide +kernel
theorem dX4_passTrain_9 : decode cX4_passTrain 9 = .ok (.iconst 0, 1) := by decide +kernel
theorem dX4_passTrain_10 : decode cX4_passTrain 10 = .ok (.istore 4, 2) := by decide +kernel
theorem dX4_passTrain_12 : decode cX4_passTrain 12 = .ok (.iload 4, 2) := by decide +kernel
theorem dX4_passTrain_14 : decode cX4_passTrain 14 = .ok (.aload_n 3, 1) := by decide +kernel
theorem dX4_passTrain_15 : decode cX4_passTrain 15 = .ok (.getfield 58, 3) := by decide +kernel
theorem dX4_passTrain_18 : decode cX4_passTrain 18 = .ok (.if_icmp .ge 44, 3) := by decide +kernel
theorem dX4_passTrain_21 : decode cX4_passTrain 21 = .ok (.aload_n 0, 1) := by decide +kernel
theorem dX4_passTrain_22 : decode cX4_passTrain 22 = .ok (.getfield 210, 3) := by decide +kernel
theorem dX4_passTrain_25 : decode cX4_passTrain 25 = .ok (.iload 4, 2) := by decide +kernel
theorem dX4_passTrain_27 : decode cX4_passTrain 27 = .ok (.baload, 1) := by decide +kernel
theorem dX4_passTrain_28 : decode cX4_passTrain 28 = .ok (.ifCond .eq 13, 3) := by decide +kernel
theorem dX4_passTrain_31 : decode cX4_passTrain 31 = .ok (.aload_n 3, 1) := by decide +kernel
theorem dX4_passTrain_32 : decode cX4_passTrain 32 = .ok (.iload 4, 2) := by decide +kernel
theorem dX4_passTrain_34 : decode cX4_passTrain 34 = .ok (.iconst 1, 1) := by decide +kernel
theorem dX4_passTrain_35 : decode cX4_passTrain 35 = .ok (.invokevirtual 237, 3) := by decide +kernel
theorem dX4_passTrain_38 : decode cX4_passTrain 38 = .ok (.goto 18, 3) := by decide +kernel
theorem dX4_passTrain_41 : decode cX4_passTrain 41 = .ok (.aload_n 3, 1) := by decide +kernel
theorem dX4_passTrain_42 : decode cX4_passTrain 42 = .ok (.iload 4, 2) := by decide +kernel
theorem dX4_passTrain_44 : decode cX4_passTrain 44 = .ok (.aload_n 0, 1) := by decide +kernel
theorem dX4_passTrain_45 : decode cX4_passTrain 45 = .ok (.iload 4, 2) := by decide +kernel
theorem dX4_passTrain_47 : decode cX4_passTrain 47 = .ok (.iload_n 1, 1) := by decide +kernel
theorem dX4_passTrain_48 : decode cX4_passTrain 48 = .ok (.iload_n 2, 1) := by decide +kernel
theorem dX4_passTrain_49 : decode cX4_passTrain 49 = .ok (.imul, 1) := by decide +kernel
theorem dX4_passTrain_50 : decode cX4_passTrain 50 = .ok (.invokestatic 240, 3) := by decide +kernel
theorem dX4_passTrain_53 : decode cX4_passTrain 53 = .ok (.invokevirtual 244, 3) := by decide +kernel
theorem dX4_passTrain_56 : decode cX4_passTrain 56 = .ok (.iinc 4 1, 3) := by decide +kernel
theorem dX4_passTrain_59 : decode cX4_passTrain 59 = .ok (.goto (-47), 3) := by decide +kernel
theorem dX4_passTrain_62 : decode cX4_passTrain 62 = .ok (.aload_n 3, 1) := by decide +kernel
theorem dX4_passTrain_63 : decode cX4_passTrain 63 = .ok (.getfield 150, 3) := by decide +kernel
theorem dX4_passTrain_66 : decode cX4_passTrain 66 = .ok (.iconst 2, 1) := by decide +kernel
theorem dX4_passTrain_67 : decode cX4_passTrain 67 = .ok (.dup2, 1) := by decide +kernel
theorem dX4_passTrain_68 : decode cX4_passTrain 68 = .ok (.iaload, 1) := by decide +kernel
theorem dX4_passTrain_69 : decode cX4_passTrain 69 = .ok (.aload_n 0, 1) := by decide +kernel
theorem dX4_passTrain_70 : decode cX4_passTrain 70 = .ok (.getfield 143, 3) := by decide +kernel
theorem dX4_passTrain_73 : decode cX4_passTrain 73 = .ok (.invokestatic 247, 3) := by decide +kernel
theorem dX4_passTrain_76 : decode cX4_passTrain 76 = .ok (.iadd, 1) := by decide +kernel
theorem dX4_passTrain_77 : decode cX4_passTrain 77 = .ok (.iastore, 1) := by decide +kernel
theorem dX4_passTrain_78 : decode cX4_passTrain 78 = .ok (.aload_n 3, 1) := by decide +kernel
theorem dX4_passTrain_79 : decode cX4_passTrain 79 = .ok (.getfield 150, 3) := by decide +kernel
theorem dX4_passTrain_82 : decode cX4_passTrain 82 = .ok (.iconst 4, 1) := by decide +kernel
theorem dX4_passTrain_83 : decode cX4_passTrain 83 = .ok (.dup2, 1) := by decide +kernel
theorem dX4_passTrain_84 : decode cX4_passTrain 84 = .ok (.iaload, 1) := by decide +kernel
theorem dX4_passTrain_85 : decode cX4_passTrain 85 = .ok (.iconst 1, 1) := by decide +kernel
theorem dX4_passTrain_86 : decode cX4_passTrain 86 = .ok (.iadd, 1) := by decide +kernel
theorem dX4_passTrain_87 : decode cX4_passTrain 87 = .ok (.iastore, 1) := by decide +kernel
theorem dX4_passTrain_88 : decode cX4_passTrain 88 = .ok (.aload_n 3, 1) := by decide +kernel
theorem dX4_passTrain_89 : decode cX4_passTrain 89 = .ok (.getfield 150, 3) := by decide +kernel
theorem dX4_passTrain_92 : decode cX4_passTrain 92 = .ok (.iconst 5, 1) := by decide +kernel
theorem dX4_passTrain_93 : decode cX4_passTrain 93 = .ok (.dup2, 1) := by decide +kernel
theorem dX4_passTrain_94 : decode cX4_passTrain 94 = .ok (.iaload, 1) := by decide +kernel
theorem dX4_passTrain_95 : decode cX4_passTrain 95 = .ok (.iload_n 1, 1) := by decide +kernel
theorem dX4_passTrain_96 : decode cX4_passTrain 96 = .ok (.iload_n 2, 1) := by decide +kernel
theorem dX4_passTrain_97 : decode cX4_passTrain 97 = .ok (.imul, 1) := by decide +kernel
theorem dX4_passTrain_98 : decode cX4_passTrain 98 = .ok (.iadd, 1) := by decide +kernel
theorem dX4_passTrain_99 : decode cX4_passTrain 99 = .ok (.iastore, 1) := by decide +kernel
theorem dX4_passTrain_100 : decode cX4_passTrain 100 = .ok (.aload_n 0, 1) := by decide +kernel
theorem dX4_passTrain_101 : decode cX4_passTrain 101 = .ok (.invokevirtual 140, 3) := by decide +kernel
theorem dX4_passTrain_104 : decode cX4_passTrain 104 = .ok (.return_, 1) := by decide +kernel
set_option maxRecDepth 20000 in
theorem ggX4_settlement_X4_shareOf : GoodIn wsX4_settlement wsX4_shareOf := goodIn_r _ [9] (by decide +kernel) (by decide +kernel)
set_option maxRecDepth 20000 in
theorem gX4_settlement_X4_shareOf : GoodIn wsX4_settlement (va_wsS RX4 250 yX4_shareOf wsX4_shareOf) := goodIn_app (goodIn_of _ (by decide +kernel)) ggX4_settlement_X4_shareOf
theorem dX4_settlement_0 : decode cX4_settlement 0 = .ok (.iload_n 2, 1) := by decide +kernel
theorem dX4_settlement_1 : decode cX4_settlement 1 = .ok (.i2l, 1) := by decide +kernel
theorem dX4_settlement_2 : decode cX4_settlement 2 = .ok (.aload_n 0, 1) := by decide +kernel
theorem dX4_settlement_3 : decode cX4_settlement 3 = .ok (.getfield 216, 3) := by decide +kernel
theorem dX4_settlement_6 : decode cX4_settlement 6 = .ok (.iload_n 1, 1) := by decide +kernel
theorem dX4_settlement_7 : decode cX4_settlement 7 = .ok (.iaload, 1) := by decide +kernel
theorem dX4_settlement_8 : decode cX4_settlement 8 = .ok (.i2l, 1) := by decide +kernel
theorem dX4_settlement_9 : decode cX4_settlement 9 = .ok (.lmul, 1) := by decide +kernel
theorem dX4_settlement_10 : decode cX4_settlement 10 = .ok (.bipush 100, 2) := by decide +kernel
theorem dX4_settlement_12 : decode cX4_settlement 12 = .ok (.aload_n 0, 1) := by decide +kernel
theorem dX4_settlement_13 : decode cX4_settlement 13 = .ok (.getfield 234, 3) := by decide +kernel
theorem dX4_settlement_16 : decode cX4_settlement 16 = .ok (.getfield 116, 3) := by decide +kernel
theorem dX4_settlement_19 : decode cX4_settlement 19 = .ok (.iload_n 1, 1) := by decide +kernel
theorem dX4_settlement_20 : decode cX4_settlement 20 = .ok (.iaload, 1) := by decide +kernel
theorem dX4_settlement_21 : decode cX4_settlement 21 = .ok (.iadd, 1) := by decide +kernel
theorem dX4_settlement_22 : decode cX4_settlement 22 = .ok (.i2l, 1) := by decide +kernel
theorem dX4_settlement_23 : decode cX4_settlement 23 = .ok (.lmul, 1) := by decide +kernel
theorem dX4_settlement_24 : decode cX4_settlement 24 = .ok (.aload_n 0, 1) := by decide +kernel
theorem dX4_settlement_25 : decode cX4_settlement 25 = .ok (.getfield 143, 3) := by decide +kernel
theorem dX4_settlement_28 : decode cX4_settlement 28 = .ok (.invokestatic 250, 3) := by decide +kernel
theorem dX4_settlement_31 : decode cX4_settlement 31 = .ok (.i2l, 1) := by decide +kernel
theorem dX4_settlement_32 : decode cX4_settlement 32 = .ok (.lmul, 1) := by decide +kernel
theorem dX4_settlement_33 : decode cX4_settlement 33 = .ok (.lstore_n 3, 1) := by decide +kernel
theorem dX4_settlement_34 : decode cX4_settlement 34 = .ok (.lload_n 3, 1) := by decide +kernel
theorem dX4_settlement_35 : decode cX4_settlement 35 = .ok (.ldc2_w 253, 3) := by decide +kernel
theorem dX4_settlement_38 : decode cX4_settlement 38 = .ok (.ldiv, 1) := by decide +kernel
theorem dX4_settlement_39 : decode cX4_settlement 39 = .ok (.l2i, 1) := by decide +kernel
theorem dX4_settlement_40 : decode cX4_settlement 40 = .ok (.ireturn, 1) := by decide +kernel
theorem dX4_shareOf_0 : decode cX4_shareOf 0 = .ok (.iload_n 0, 1) := by decide +kernel
theorem dX4_shareOf_1 : decode cX4_shareOf 1 = .ok (.lookupswitch 33 #[(0, 27), (1, 30)], 27) := by decide +kernel
theorem dX4_shareOf_28 : decode cX4_shareOf 28 = .ok (.bipush 100, 2) := by decide +kernel
theorem dX4_shareOf_30 : decode cX4_shareOf 30 = .ok (.ireturn, 1) := by decide +kernel
theorem dX4_shareOf_31 : decode cX4_shareOf 31 = .ok (.bipush 70, 2) := by decide +kernel
theorem dX4_shareOf_33 : decode cX4_shareOf 33 = .ok (.ireturn, 1) := by decide +kernel
theorem dX4_shareOf_34 : decode cX4_shareOf 34 = .ok (.bipush 40, 2) := by decide +kernel
theorem dX4_shareOf_36 : decode cX4_shareOf 36 = .ok (.ireturn, 1) := by decide +kernel
theorem dX4_minutesLostBy_0 : decode cX4_minutesLostBy 0 = .ok (.iload_n 0, 1) := by decide +kernel
theorem dX4_minutesLostBy_1 : decode cX4_minutesLostBy 1 = .ok (.lookupswitch 31 #[(0, 27), (1, 29)], 27) := by decide +kernel
theorem dX4_minutesLostBy_28 : decode cX4_minutesLostBy 28 = .ok (.iconst 0, 1) := by decide +kernel
theorem dX4_minutesLostBy_29 : decode cX4_minutesLostBy 29 = .ok (.ireturn, 1) := by decide +kernel
theorem dX4_minutesLostBy_30 : decode cX4_minutesLostBy 30 = .ok (.iconst 2, 1) := by decide +kernel
theorem dX4_minutesLostBy_31 : decode cX4_minutesLostBy 31 = .ok (.ireturn, 1) := by decide +kernel
theorem dX4_minutesLostBy_32 : decode cX4_minutesLostBy 32 = .ok (.bipush 6, 2) := by decide +kernel
theorem dX4_minutesLostBy_34 : decode cX4_minutesLostBy 34 = .ok (.ireturn, 1) := by decide +kernel
theorem dX4_minutesFor_0 : decode cX4_minutesFor 0 = .ok (.iconst 2, 1) := by decide +kernel
theorem dX4_minutesFor_1 : decode cX4_minutesFor 1 = .ok (.iload_n 0, 1) := by decide +kernel
theorem dX4_minutesFor_2 : decode cX4_minutesFor 2 = .ok (.bipush 49, 2) := by decide +kernel
theorem dX4_minutesFor_4 : decode cX4_minutesFor 4 = .ok (.iadd, 1) := by decide +kernel
theorem dX4_minutesFor_5 : decode cX4_minutesFor 5 = .ok (.bipush 50, 2) := by decide +kernel
theorem dX4_minutesFor_7 : decode cX4_minutesFor 7 = .ok (.idiv, 1) := by decide +kernel
theorem dX4_minutesFor_8 : decode cX4_minutesFor 8 = .ok (.iadd, 1) := by decide +kernel
theorem dX4_minutesFor_9 : decode cX4_minutesFor 9 = .ok (.ireturn, 1) := by decide +kernel
