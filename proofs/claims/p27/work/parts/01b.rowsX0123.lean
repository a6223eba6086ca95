set_option maxRecDepth 20000 in
theorem ggX0_init_X1_init : GoodIn wsX0_init wsX1_init := goodIn_r _ [12, 13, 2, 3, 14, 15, 16, 17, 18, 19, 20, 21, 22, 23, 24, 25, 26, 27, 31, 32, 33, 34, 35, 36, 37, 38, 39] (by decide +kernel) (by decide +kernel)
set_option maxRecDepth 20000 in
theorem gX0_init_X1_init : GoodIn wsX0_init (wsX1_init) := ggX0_init_X1_init
theorem dX0_init_0 : decode cX0_init 0 = .ok (.aload_n 0, 1) := by decide +kernel
theorem dX0_init_1 : decode cX0_init 1 = .ok (.invokespecial 3, 3) := by decide +kernel
theorem dX0_init_4 : decode cX0_init 4 = .ok (.aload_n 0, 1) := by decide +kernel
theorem dX0_init_5 : decode cX0_init 5 = .ok (.bipush 6, 2) := by decide +kernel
theorem dX0_init_7 : decode cX0_init 7 = .ok (.anewarray 9, 3) := by decide +kernel
theorem dX0_init_10 : decode cX0_init 10 = .ok (.putfield 11, 3) := by decide +kernel
theorem dX0_init_13 : decode cX0_init 13 = .ok (.aload_n 0, 1) := by decide +kernel
theorem dX0_init_14 : decode cX0_init 14 = .ok (.iconst 0, 1) := by decide +kernel
theorem dX0_init_15 : decode cX0_init 15 = .ok (.putfield 17, 3) := by decide +kernel
theorem dX0_init_18 : decode cX0_init 18 = .ok (.aload_n 0, 1) := by decide +kernel
theorem dX0_init_19 : decode cX0_init 19 = .ok (.iconst 0, 1) := by decide +kernel
theorem dX0_init_20 : decode cX0_init 20 = .ok (.putfield 21, 3) := by decide +kernel
theorem dX0_init_23 : decode cX0_init 23 = .ok (.iconst 0, 1) := by decide +kernel
theorem dX0_init_24 : decode cX0_init 24 = .ok (.istore_n 1, 1) := by decide +kernel
theorem dX0_init_25 : decode cX0_init 25 = .ok (.iload_n 1, 1) := by decide +kernel
theorem dX0_init_26 : decode cX0_init 26 = .ok (.bipush 6, 2) := by decide +kernel
theorem dX0_init_28 : decode cX0_init 28 = .ok (.if_icmp .ge 22, 3) := by decide +kernel
theorem dX0_init_31 : decode cX0_init 31 = .ok (.aload_n 0, 1) := by decide +kernel
theorem dX0_init_32 : decode cX0_init 32 = .ok (.getfield 11, 3) := by decide +kernel
theorem dX0_init_35 : decode cX0_init 35 = .ok (.iload_n 1, 1) := by decide +kernel
theorem dX0_init_36 : decode cX0_init 36 = .ok (.new 9, 3) := by decide +kernel
theorem dX0_init_39 : decode cX0_init 39 = .ok (.dup, 1) := by decide +kernel
theorem dX0_init_40 : decode cX0_init 40 = .ok (.invokespecial 24, 3) := by decide +kernel
theorem dX0_init_43 : decode cX0_init 43 = .ok (.aastore, 1) := by decide +kernel
theorem dX0_init_44 : decode cX0_init 44 = .ok (.iinc 1 1, 3) := by decide +kernel
theorem dX0_init_47 : decode cX0_init 47 = .ok (.goto (-22), 3) := by decide +kernel
theorem dX0_init_50 : decode cX0_init 50 = .ok (.return_, 1) := by decide +kernel
set_option maxRecDepth 20000 in
theorem ggX0_save_X1_copyFrom : GoodIn wsX0_save wsX1_copyFrom := goodIn_r _ [8, 9, 10, 11, 12, 13, 14, 15, 16, 17, 18, 19, 20, 21, 25, 26, 27, 28, 29, 30, 31, 32, 33] (by decide +kernel) (by decide +kernel)
set_option maxRecDepth 20000 in
theorem gX0_save_X1_copyFrom : GoodIn wsX0_save (wsV RX0 25 RX1 yX1_copyFrom wsX1_copyFrom) := goodIn_app (goodIn_of _ (by decide +kernel)) ggX0_save_X1_copyFrom
theorem dX0_save_0 : decode cX0_save 0 = .ok (.aload_n 0, 1) := by decide +kernel
theorem dX0_save_1 : decode cX0_save 1 = .ok (.getfield 11, 3) := by decide +kernel
theorem dX0_save_4 : decode cX0_save 4 = .ok (.aload_n 0, 1) := by decide +kernel
theorem dX0_save_5 : decode cX0_save 5 = .ok (.getfield 17, 3) := by decide +kernel
theorem dX0_save_8 : decode cX0_save 8 = .ok (.aload_n 0, 1) := by decide +kernel
theorem dX0_save_9 : decode cX0_save 9 = .ok (.getfield 21, 3) := by decide +kernel
theorem dX0_save_12 : decode cX0_save 12 = .ok (.iadd, 1) := by decide +kernel
theorem dX0_save_13 : decode cX0_save 13 = .ok (.bipush 6, 2) := by decide +kernel
theorem dX0_save_15 : decode cX0_save 15 = .ok (.irem, 1) := by decide +kernel
theorem dX0_save_16 : decode cX0_save 16 = .ok (.aaload, 1) := by decide +kernel
theorem dX0_save_17 : decode cX0_save 17 = .ok (.aload_n 1, 1) := by decide +kernel
theorem dX0_save_18 : decode cX0_save 18 = .ok (.invokevirtual 25, 3) := by decide +kernel
theorem dX0_save_21 : decode cX0_save 21 = .ok (.aload_n 0, 1) := by decide +kernel
theorem dX0_save_22 : decode cX0_save 22 = .ok (.getfield 21, 3) := by decide +kernel
theorem dX0_save_25 : decode cX0_save 25 = .ok (.bipush 6, 2) := by decide +kernel
theorem dX0_save_27 : decode cX0_save 27 = .ok (.if_icmp .ge 16, 3) := by decide +kernel
theorem dX0_save_30 : decode cX0_save 30 = .ok (.aload_n 0, 1) := by decide +kernel
theorem dX0_save_31 : decode cX0_save 31 = .ok (.dup, 1) := by decide +kernel
theorem dX0_save_32 : decode cX0_save 32 = .ok (.getfield 21, 3) := by decide +kernel
theorem dX0_save_35 : decode cX0_save 35 = .ok (.iconst 1, 1) := by decide +kernel
theorem dX0_save_36 : decode cX0_save 36 = .ok (.iadd, 1) := by decide +kernel
theorem dX0_save_37 : decode cX0_save 37 = .ok (.putfield 21, 3) := by decide +kernel
theorem dX0_save_40 : decode cX0_save 40 = .ok (.goto 16, 3) := by decide +kernel
theorem dX0_save_43 : decode cX0_save 43 = .ok (.aload_n 0, 1) := by decide +kernel
theorem dX0_save_44 : decode cX0_save 44 = .ok (.aload_n 0, 1) := by decide +kernel
theorem dX0_save_45 : decode cX0_save 45 = .ok (.getfield 17, 3) := by decide +kernel
theorem dX0_save_48 : decode cX0_save 48 = .ok (.iconst 1, 1) := by decide +kernel
theorem dX0_save_49 : decode cX0_save 49 = .ok (.iadd, 1) := by decide +kernel
theorem dX0_save_50 : decode cX0_save 50 = .ok (.bipush 6, 2) := by decide +kernel
theorem dX0_save_52 : decode cX0_save 52 = .ok (.irem, 1) := by decide +kernel
theorem dX0_save_53 : decode cX0_save 53 = .ok (.putfield 17, 3) := by decide +kernel
theorem dX0_save_56 : decode cX0_save 56 = .ok (.return_, 1) := by decide +kernel
set_option maxRecDepth 20000 in
theorem ggX0_restore_X1_copyFrom : GoodIn wsX0_restore wsX1_copyFrom := goodIn_r _ [8, 9, 10, 11, 12, 13, 14, 15, 16, 17, 18, 19, 20, 21, 25, 26, 27, 28, 29, 30, 31, 32, 33] (by decide +kernel) (by decide +kernel)
set_option maxRecDepth 20000 in
theorem gX0_restore_X1_copyFrom : GoodIn wsX0_restore (wsV RX0 25 RX1 yX1_copyFrom wsX1_copyFrom) := goodIn_app (goodIn_of _ (by decide +kernel)) ggX0_restore_X1_copyFrom
theorem dX0_restore_0 : decode cX0_restore 0 = .ok (.aload_n 0, 1) := by decide +kernel
theorem dX0_restore_1 : decode cX0_restore 1 = .ok (.getfield 21, 3) := by decide +kernel
theorem dX0_restore_4 : decode cX0_restore 4 = .ok (.ifCond .le 34, 3) := by decide +kernel
theorem dX0_restore_7 : decode cX0_restore 7 = .ok (.aload_n 0, 1) := by decide +kernel
theorem dX0_restore_8 : decode cX0_restore 8 = .ok (.dup, 1) := by decide +kernel
theorem dX0_restore_9 : decode cX0_restore 9 = .ok (.getfield 21, 3) := by decide +kernel
theorem dX0_restore_12 : decode cX0_restore 12 = .ok (.iconst 1, 1) := by decide +kernel
theorem dX0_restore_13 : decode cX0_restore 13 = .ok (.isub, 1) := by decide +kernel
theorem dX0_restore_14 : decode cX0_restore 14 = .ok (.putfield 21, 3) := by decide +kernel
theorem dX0_restore_17 : decode cX0_restore 17 = .ok (.aload_n 1, 1) := by decide +kernel
theorem dX0_restore_18 : decode cX0_restore 18 = .ok (.aload_n 0, 1) := by decide +kernel
theorem dX0_restore_19 : decode cX0_restore 19 = .ok (.getfield 11, 3) := by decide +kernel
theorem dX0_restore_22 : decode cX0_restore 22 = .ok (.aload_n 0, 1) := by decide +kernel
theorem dX0_restore_23 : decode cX0_restore 23 = .ok (.getfield 17, 3) := by decide +kernel
theorem dX0_restore_26 : decode cX0_restore 26 = .ok (.aload_n 0, 1) := by decide +kernel
theorem dX0_restore_27 : decode cX0_restore 27 = .ok (.getfield 21, 3) := by decide +kernel
theorem dX0_restore_30 : decode cX0_restore 30 = .ok (.iadd, 1) := by decide +kernel
theorem dX0_restore_31 : decode cX0_restore 31 = .ok (.bipush 6, 2) := by decide +kernel
theorem dX0_restore_33 : decode cX0_restore 33 = .ok (.irem, 1) := by decide +kernel
theorem dX0_restore_34 : decode cX0_restore 34 = .ok (.aaload, 1) := by decide +kernel
theorem dX0_restore_35 : decode cX0_restore 35 = .ok (.invokevirtual 25, 3) := by decide +kernel
theorem dX0_restore_38 : decode cX0_restore 38 = .ok (.return_, 1) := by decide +kernel
theorem dX1_init_0 : decode cX1_init 0 = .ok (.aload_n 0, 1) := by decide +kernel
theorem dX1_init_1 : decode cX1_init 1 = .ok (.invokespecial 3, 3) := by decide +kernel
theorem dX1_init_4 : decode cX1_init 4 = .ok (.aload_n 0, 1) := by decide +kernel
theorem dX1_init_5 : decode cX1_init 5 = .ok (.bipush 40, 2) := by decide +kernel
theorem dX1_init_7 : decode cX1_init 7 = .ok (.putfield 9, 3) := by decide +kernel
theorem dX1_init_10 : decode cX1_init 10 = .ok (.aload_n 0, 1) := by decide +kernel
theorem dX1_init_11 : decode cX1_init 11 = .ok (.iconst 0, 1) := by decide +kernel
theorem dX1_init_12 : decode cX1_init 12 = .ok (.putfield 15, 3) := by decide +kernel
theorem dX1_init_15 : decode cX1_init 15 = .ok (.aload_n 0, 1) := by decide +kernel
theorem dX1_init_16 : decode cX1_init 16 = .ok (.bipush 8, 2) := by decide +kernel
theorem dX1_init_18 : decode cX1_init 18 = .ok (.newarray .int, 2) := by decide +kernel
theorem dX1_init_20 : decode cX1_init 20 = .ok (.putfield 18, 3) := by decide +kernel
theorem dX1_init_23 : decode cX1_init 23 = .ok (.aload_n 0, 1) := by decide +kernel
theorem dX1_init_24 : decode cX1_init 24 = .ok (.bipush 60, 2) := by decide +kernel
theorem dX1_init_26 : decode cX1_init 26 = .ok (.newarray .int, 2) := by decide +kernel
theorem dX1_init_28 : decode cX1_init 28 = .ok (.putfield 22, 3) := by decide +kernel
theorem dX1_init_31 : decode cX1_init 31 = .ok (.aload_n 0, 1) := by decide +kernel
theorem dX1_init_32 : decode cX1_init 32 = .ok (.bipush 60, 2) := by decide +kernel
theorem dX1_init_34 : decode cX1_init 34 = .ok (.newarray .int, 2) := by decide +kernel
theorem dX1_init_36 : decode cX1_init 36 = .ok (.putfield 25, 3) := by decide +kernel
theorem dX1_init_39 : decode cX1_init 39 = .ok (.aload_n 0, 1) := by decide +kernel
theorem dX1_init_40 : decode cX1_init 40 = .ok (.bipush 60, 2) := by decide +kernel
theorem dX1_init_42 : decode cX1_init 42 = .ok (.newarray .int, 2) := by decide +kernel
theorem dX1_init_44 : decode cX1_init 44 = .ok (.putfield 28, 3) := by decide +kernel
theorem dX1_init_47 : decode cX1_init 47 = .ok (.aload_n 0, 1) := by decide +kernel
theorem dX1_init_48 : decode cX1_init 48 = .ok (.bipush 60, 2) := by decide +kernel
theorem dX1_init_50 : decode cX1_init 50 = .ok (.newarray .int, 2) := by decide +kernel
theorem dX1_init_52 : decode cX1_init 52 = .ok (.putfield 31, 3) := by decide +kernel
theorem dX1_init_55 : decode cX1_init 55 = .ok (.aload_n 0, 1) := by decide +kernel
theorem dX1_init_56 : decode cX1_init 56 = .ok (.bipush 24, 2) := by decide +kernel
theorem dX1_init_58 : decode cX1_init 58 = .ok (.newarray .int, 2) := by decide +kernel
theorem dX1_init_60 : decode cX1_init 60 = .ok (.putfield 34, 3) := by decide +kernel
theorem dX1_init_63 : decode cX1_init 63 = .ok (.aload_n 0, 1) := by decide +kernel
theorem dX1_init_64 : decode cX1_init 64 = .ok (.bipush 7, 2) := by decide +kernel
theorem dX1_init_66 : decode cX1_init 66 = .ok (.newarray .int, 2) := by decide +kernel
theorem dX1_init_68 : decode cX1_init 68 = .ok (.putfield 37, 3) := by decide +kernel
theorem dX1_init_71 : decode cX1_init 71 = .ok (.getstatic 40, 3) := by decide +kernel
theorem dX1_init_74 : decode cX1_init 74 = .ok (.iconst 0, 1) := by decide +kernel
theorem dX1_init_75 : decode cX1_init 75 = .ok (.aload_n 0, 1) := by decide +kernel
theorem dX1_init_76 : decode cX1_init 76 = .ok (.getfield 18, 3) := by decide +kernel
theorem dX1_init_79 : decode cX1_init 79 = .ok (.iconst 0, 1) := by decide +kernel
theorem dX1_init_80 : decode cX1_init 80 = .ok (.bipush 8, 2) := by decide +kernel
theorem dX1_init_82 : decode cX1_init 82 = .ok (.invokestatic 43, 3) := by decide +kernel
theorem dX1_init_85 : decode cX1_init 85 = .ok (.return_, 1) := by decide +kernel
theorem dX1_copyFrom_0 : decode cX1_copyFrom 0 = .ok (.aload_n 0, 1) := by decide +kernel
theorem dX1_copyFrom_1 : decode cX1_copyFrom 1 = .ok (.aload_n 1, 1) := by decide +kernel
theorem dX1_copyFrom_2 : decode cX1_copyFrom 2 = .ok (.getfield 9, 3) := by decide +kernel
theorem dX1_copyFrom_5 : decode cX1_copyFrom 5 = .ok (.putfield 9, 3) := by decide +kernel
theorem dX1_copyFrom_8 : decode cX1_copyFrom 8 = .ok (.aload_n 0, 1) := by decide +kernel
theorem dX1_copyFrom_9 : decode cX1_copyFrom 9 = .ok (.aload_n 1, 1) := by decide +kernel
theorem dX1_copyFrom_10 : decode cX1_copyFrom 10 = .ok (.getfield 15, 3) := by decide +kernel
theorem dX1_copyFrom_13 : decode cX1_copyFrom 13 = .ok (.putfield 15, 3) := by decide +kernel
theorem dX1_copyFrom_16 : decode cX1_copyFrom 16 = .ok (.aload_n 1, 1) := by decide +kernel
theorem dX1_copyFrom_17 : decode cX1_copyFrom 17 = .ok (.getfield 18, 3) := by decide +kernel
theorem dX1_copyFrom_20 : decode cX1_copyFrom 20 = .ok (.iconst 0, 1) := by decide +kernel
theorem dX1_copyFrom_21 : decode cX1_copyFrom 21 = .ok (.aload_n 0, 1) := by decide +kernel
theorem dX1_copyFrom_22 : decode cX1_copyFrom 22 = .ok (.getfield 18, 3) := by decide +kernel
theorem dX1_copyFrom_25 : decode cX1_copyFrom 25 = .ok (.iconst 0, 1) := by decide +kernel
theorem dX1_copyFrom_26 : decode cX1_copyFrom 26 = .ok (.bipush 8, 2) := by decide +kernel
theorem dX1_copyFrom_28 : decode cX1_copyFrom 28 = .ok (.invokestatic 43, 3) := by decide +kernel
theorem dX1_copyFrom_31 : decode cX1_copyFrom 31 = .ok (.aload_n 1, 1) := by decide +kernel
theorem dX1_copyFrom_32 : decode cX1_copyFrom 32 = .ok (.getfield 22, 3) := by decide +kernel
theorem dX1_copyFrom_35 : decode cX1_copyFrom 35 = .ok (.iconst 0, 1) := by decide +kernel
theorem dX1_copyFrom_36 : decode cX1_copyFrom 36 = .ok (.aload_n 0, 1) := by decide +kernel
theorem dX1_copyFrom_37 : decode cX1_copyFrom 37 = .ok (.getfield 22, 3) := by decide +kernel
theorem dX1_copyFrom_40 : decode cX1_copyFrom 40 = .ok (.iconst 0, 1) := by decide +kernel
theorem dX1_copyFrom_41 : decode cX1_copyFrom 41 = .ok (.bipush 60, 2) := by decide +kernel
theorem dX1_copyFrom_43 : decode cX1_copyFrom 43 = .ok (.invokestatic 43, 3) := by decide +kernel
theorem dX1_copyFrom_46 : decode cX1_copyFrom 46 = .ok (.aload_n 1, 1) := by decide +kernel
theorem dX1_copyFrom_47 : decode cX1_copyFrom 47 = .ok (.getfield 25, 3) := by decide +kernel
theorem dX1_copyFrom_50 : decode cX1_copyFrom 50 = .ok (.iconst 0, 1) := by decide +kernel
theorem dX1_copyFrom_51 : decode cX1_copyFrom 51 = .ok (.aload_n 0, 1) := by decide +kernel
theorem dX1_copyFrom_52 : decode cX1_copyFrom 52 = .ok (.getfield 25, 3) := by decide +kernel
theorem dX1_copyFrom_55 : decode cX1_copyFrom 55 = .ok (.iconst 0, 1) := by decide +kernel
theorem dX1_copyFrom_56 : decode cX1_copyFrom 56 = .ok (.bipush 60, 2) := by decide +kernel
theorem dX1_copyFrom_58 : decode cX1_copyFrom 58 = .ok (.invokestatic 43, 3) := by decide +kernel
theorem dX1_copyFrom_61 : decode cX1_copyFrom 61 = .ok (.aload_n 1, 1) := by decide +kernel
theorem dX1_copyFrom_62 : decode cX1_copyFrom 62 = .ok (.getfield 28, 3) := by decide +kernel
theorem dX1_copyFrom_65 : decode cX1_copyFrom 65 = .ok (.iconst 0, 1) := by decide +kernel
theorem dX1_copyFrom_66 : decode cX1_copyFrom 66 = .ok (.aload_n 0, 1) := by decide +kernel
theorem dX1_copyFrom_67 : decode cX1_copyFrom 67 = .ok (.getfield 28, 3) := by decide +kernel
theorem dX1_copyFrom_70 : decode cX1_copyFrom 70 = .ok (.iconst 0, 1) := by decide +kernel
theorem dX1_copyFrom_71 : decode cX1_copyFrom 71 = .ok (.bipush 60, 2) := by decide +kernel
theorem dX1_copyFrom_73 : decode cX1_copyFrom 73 = .ok (.invokestatic 43, 3) := by decide +kernel
theorem dX1_copyFrom_76 : decode cX1_copyFrom 76 = .ok (.aload_n 1, 1) := by decide +kernel
theorem dX1_copyFrom_77 : decode cX1_copyFrom 77 = .ok (.getfield 31, 3) := by decide +kernel
theorem dX1_copyFrom_80 : decode cX1_copyFrom 80 = .ok (.iconst 0, 1) := by decide +kernel
theorem dX1_copyFrom_81 : decode cX1_copyFrom 81 = .ok (.aload_n 0, 1) := by decide +kernel
theorem dX1_copyFrom_82 : decode cX1_copyFrom 82 = .ok (.getfield 31, 3) := by decide +kernel
theorem dX1_copyFrom_85 : decode cX1_copyFrom 85 = .ok (.iconst 0, 1) := by decide +kernel
theorem dX1_copyFrom_86 : decode cX1_copyFrom 86 = .ok (.bipush 60, 2) := by decide +kernel
theorem dX1_copyFrom_88 : decode cX1_copyFrom 88 = .ok (.invokestatic 43, 3) := by decide +kernel
theorem dX1_copyFrom_91 : decode cX1_copyFrom 91 = .ok (.aload_n 1, 1) := by decide +kernel
theorem dX1_copyFrom_92 : decode cX1_copyFrom 92 = .ok (.getfield 34, 3) := by decide +kernel
theorem dX1_copyFrom_95 : decode cX1_copyFrom 95 = .ok (.iconst 0, 1) := by decide +kernel
theorem dX1_copyFrom_96 : decode cX1_copyFrom 96 = .ok (.aload_n 0, 1) := by decide +kernel
theorem dX1_copyFrom_97 : decode cX1_copyFrom 97 = .ok (.getfield 34, 3) := by decide +kernel
theorem dX1_copyFrom_100 : decode cX1_copyFrom 100 = .ok (.iconst 0, 1) := by decide +kernel
theorem dX1_copyFrom_101 : decode cX1_copyFrom 101 = .ok (.bipush 24, 2) := by decide +kernel
theorem dX1_copyFrom_103 : decode cX1_copyFrom 103 = .ok (.invokestatic 43, 3) := by decide +kernel
theorem dX1_copyFrom_106 : decode cX1_copyFrom 106 = .ok (.aload_n 1, 1) := by decide +kernel
theorem dX1_copyFrom_107 : decode cX1_copyFrom 107 = .ok (.getfield 37, 3) := by decide +kernel
theorem dX1_copyFrom_110 : decode cX1_copyFrom 110 = .ok (.iconst 0, 1) := by decide +kernel
theorem dX1_copyFrom_111 : decode cX1_copyFrom 111 = .ok (.aload_n 0, 1) := by decide +kernel
theorem dX1_copyFrom_112 : decode cX1_copyFrom 112 = .ok (.getfield 37, 3) := by decide +kernel
theorem dX1_copyFrom_115 : decode cX1_copyFrom 115 = .ok (.iconst 0, 1) := by decide +kernel
theorem dX1_copyFrom_116 : decode cX1_copyFrom 116 = .ok (.bipush 7, 2) := by decide +kernel
theorem dX1_copyFrom_118 : decode cX1_copyFrom 118 = .ok (.invokestatic 43, 3) := by decide +kernel
theorem dX1_copyFrom_121 : decode cX1_copyFrom 121 = .ok (.return_, 1) := by decide +kernel
set_option maxRecDepth 20000 in
theorem ggX1_makeNew_J7_fill_53178 : GoodIn wsX1_makeNew wsJ7_fill_53178 := goodIn_r _ [11] (by decide +kernel) (by decide +kernel)
set_option maxRecDepth 20000 in
theorem gX1_makeNew_J7_fill_53178 : GoodIn wsX1_makeNew (va_wsS RX1 49 yJ7_fill_53178 wsJ7_fill_53178) := goodIn_app (goodIn_of _ (by decide +kernel)) ggX1_makeNew_J7_fill_53178
theorem dX1_makeNew_0 : decode cX1_makeNew 0 = .ok (.aload_n 0, 1) := by decide +kernel
theorem dX1_makeNew_1 : decode cX1_makeNew 1 = .ok (.iload_n 1, 1) := by decide +kernel
theorem dX1_makeNew_2 : decode cX1_makeNew 2 = .ok (.putfield 9, 3) := by decide +kernel
theorem dX1_makeNew_5 : decode cX1_makeNew 5 = .ok (.aload_n 0, 1) := by decide +kernel
theorem dX1_makeNew_6 : decode cX1_makeNew 6 = .ok (.iconst 0, 1) := by decide +kernel
theorem dX1_makeNew_7 : decode cX1_makeNew 7 = .ok (.putfield 15, 3) := by decide +kernel
theorem dX1_makeNew_10 : decode cX1_makeNew 10 = .ok (.aload_n 0, 1) := by decide +kernel
theorem dX1_makeNew_11 : decode cX1_makeNew 11 = .ok (.getfield 22, 3) := by decide +kernel
theorem dX1_makeNew_14 : decode cX1_makeNew 14 = .ok (.iconst 0, 1) := by decide +kernel
theorem dX1_makeNew_15 : decode cX1_makeNew 15 = .ok (.invokestatic 49, 3) := by decide +kernel
theorem dX1_makeNew_18 : decode cX1_makeNew 18 = .ok (.aload_n 0, 1) := by decide +kernel
theorem dX1_makeNew_19 : decode cX1_makeNew 19 = .ok (.getfield 25, 3) := by decide +kernel
theorem dX1_makeNew_22 : decode cX1_makeNew 22 = .ok (.iconst 0, 1) := by decide +kernel
theorem dX1_makeNew_23 : decode cX1_makeNew 23 = .ok (.invokestatic 49, 3) := by decide +kernel
theorem dX1_makeNew_26 : decode cX1_makeNew 26 = .ok (.aload_n 0, 1) := by decide +kernel
theorem dX1_makeNew_27 : decode cX1_makeNew 27 = .ok (.getfield 28, 3) := by decide +kernel
theorem dX1_makeNew_30 : decode cX1_makeNew 30 = .ok (.iconst 0, 1) := by decide +kernel
theorem dX1_makeNew_31 : decode cX1_makeNew 31 = .ok (.invokestatic 49, 3) := by decide +kernel
theorem dX1_makeNew_34 : decode cX1_makeNew 34 = .ok (.aload_n 0, 1) := by decide +kernel
theorem dX1_makeNew_35 : decode cX1_makeNew 35 = .ok (.getfield 31, 3) := by decide +kernel
theorem dX1_makeNew_38 : decode cX1_makeNew 38 = .ok (.iconst 0, 1) := by decide +kernel
theorem dX1_makeNew_39 : decode cX1_makeNew 39 = .ok (.invokestatic 49, 3) := by decide +kernel
theorem dX1_makeNew_42 : decode cX1_makeNew 42 = .ok (.aload_n 0, 1) := by decide +kernel
theorem dX1_makeNew_43 : decode cX1_makeNew 43 = .ok (.getfield 37, 3) := by decide +kernel
theorem dX1_makeNew_46 : decode cX1_makeNew 46 = .ok (.iconst 0, 1) := by decide +kernel
theorem dX1_makeNew_47 : decode cX1_makeNew 47 = .ok (.invokestatic 49, 3) := by decide +kernel
theorem dX1_makeNew_50 : decode cX1_makeNew 50 = .ok (.return_, 1) := by decide +kernel
set_option maxRecDepth 20000 in
theorem ggX1_has_X4_isWithin : GoodIn wsX1_has wsX4_isWithin := goodIn_r _ [4] (by decide +kernel) (by decide +kernel)
set_option maxRecDepth 20000 in
theorem gX1_has_X4_isWithin_n55 : GoodIn wsX1_has (wsX4_isWithin) := ggX1_has_X4_isWithin
theorem dX1_has_0 : decode cX1_has 0 = .ok (.iload_n 1, 1) := by decide +kernel
theorem dX1_has_1 : decode cX1_has 1 = .ok (.iconst 0, 1) := by decide +kernel
theorem dX1_has_2 : decode cX1_has 2 = .ok (.aload_n 0, 1) := by decide +kernel
theorem dX1_has_3 : decode cX1_has 3 = .ok (.getfield 9, 3) := by decide +kernel
theorem dX1_has_6 : decode cX1_has 6 = .ok (.iconst 1, 1) := by decide +kernel
theorem dX1_has_7 : decode cX1_has 7 = .ok (.isub, 1) := by decide +kernel
theorem dX1_has_8 : decode cX1_has 8 = .ok (.invokestatic 55, 3) := by decide +kernel
theorem dX1_has_11 : decode cX1_has 11 = .ok (.ireturn, 1) := by decide +kernel
theorem dX1_putLevel_0 : decode cX1_putLevel 0 = .ok (.aload_n 0, 1) := by decide +kernel
theorem dX1_putLevel_1 : decode cX1_putLevel 1 = .ok (.getfield 37, 3) := by decide +kernel
theorem dX1_putLevel_4 : decode cX1_putLevel 4 = .ok (.bipush 6, 2) := by decide +kernel
theorem dX1_putLevel_6 : decode cX1_putLevel 6 = .ok (.dup2, 1) := by decide +kernel
theorem dX1_putLevel_7 : decode cX1_putLevel 7 = .ok (.iaload, 1) := by decide +kernel
theorem dX1_putLevel_8 : decode cX1_putLevel 8 = .ok (.iload_n 2, 1) := by decide +kernel
theorem dX1_putLevel_9 : decode cX1_putLevel 9 = .ok (.aload_n 0, 1) := by decide +kernel
theorem dX1_putLevel_10 : decode cX1_putLevel 10 = .ok (.getfield 22, 3) := by decide +kernel
theorem dX1_putLevel_13 : decode cX1_putLevel 13 = .ok (.iload_n 1, 1) := by decide +kernel
theorem dX1_putLevel_14 : decode cX1_putLevel 14 = .ok (.iaload, 1) := by decide +kernel
theorem dX1_putLevel_15 : decode cX1_putLevel 15 = .ok (.isub, 1) := by decide +kernel
theorem dX1_putLevel_16 : decode cX1_putLevel 16 = .ok (.iadd, 1) := by decide +kernel
theorem dX1_putLevel_17 : decode cX1_putLevel 17 = .ok (.iastore, 1) := by decide +kernel
theorem dX1_putLevel_18 : decode cX1_putLevel 18 = .ok (.aload_n 0, 1) := by decide +kernel
theorem dX1_putLevel_19 : decode cX1_putLevel 19 = .ok (.getfield 22, 3) := by decide +kernel
theorem dX1_putLevel_22 : decode cX1_putLevel 22 = .ok (.iload_n 1, 1) := by decide +kernel
theorem dX1_putLevel_23 : decode cX1_putLevel 23 = .ok (.iload_n 2, 1) := by decide +kernel
theorem dX1_putLevel_24 : decode cX1_putLevel 24 = .ok (.iastore, 1) := by decide +kernel
theorem dX1_putLevel_25 : decode cX1_putLevel 25 = .ok (.return_, 1) := by decide +kernel
theorem dX1_foul_0 : decode cX1_foul 0 = .ok (.aload_n 0, 1) := by decide +kernel
theorem dX1_foul_1 : decode cX1_foul 1 = .ok (.getfield 25, 3) := by decide +kernel
theorem dX1_foul_4 : decode cX1_foul 4 = .ok (.iload_n 1, 1) := by decide +kernel
theorem dX1_foul_5 : decode cX1_foul 5 = .ok (.bipush 100, 2) := by decide +kernel
theorem dX1_foul_7 : decode cX1_foul 7 = .ok (.aload_n 0, 1) := by decide +kernel
theorem dX1_foul_8 : decode cX1_foul 8 = .ok (.getfield 25, 3) := by decide +kernel
theorem dX1_foul_11 : decode cX1_foul 11 = .ok (.iload_n 1, 1) := by decide +kernel
theorem dX1_foul_12 : decode cX1_foul 12 = .ok (.iaload, 1) := by decide +kernel
theorem dX1_foul_13 : decode cX1_foul 13 = .ok (.iload_n 2, 1) := by decide +kernel
theorem dX1_foul_14 : decode cX1_foul 14 = .ok (.iadd, 1) := by decide +kernel
theorem dX1_foul_15 : decode cX1_foul 15 = .ok (.invokestatic 59, 3) := by decide +kernel
theorem dX1_foul_18 : decode cX1_foul 18 = .ok (.iastore, 1) := by decide +kernel
theorem dX1_foul_19 : decode cX1_foul 19 = .ok (.return_, 1) := by decide +kernel
theorem dX1_settle_0 : decode cX1_settle 0 = .ok (.iload_n 2, 1) := by decide +kernel
theorem dX1_settle_1 : decode cX1_settle 1 = .ok (.aload_n 0, 1) := by decide +kernel
theorem dX1_settle_2 : decode cX1_settle 2 = .ok (.getfield 22, 3) := by decide +kernel
theorem dX1_settle_5 : decode cX1_settle 5 = .ok (.iload_n 1, 1) := by decide +kernel
theorem dX1_settle_6 : decode cX1_settle 6 = .ok (.iaload, 1) := by decide +kernel
theorem dX1_settle_7 : decode cX1_settle 7 = .ok (.sipush (-9999), 3) := by decide +kernel
theorem dX1_settle_10 : decode cX1_settle 10 = .ok (.isub, 1) := by decide +kernel
theorem dX1_settle_11 : decode cX1_settle 11 = .ok (.invokestatic 59, 3) := by decide +kernel
theorem dX1_settle_14 : decode cX1_settle 14 = .ok (.istore_n 3, 1) := by decide +kernel
theorem dX1_settle_15 : decode cX1_settle 15 = .ok (.aload_n 0, 1) := by decide +kernel
theorem dX1_settle_16 : decode cX1_settle 16 = .ok (.getfield 22, 3) := by decide +kernel
theorem dX1_settle_19 : decode cX1_settle 19 = .ok (.iload_n 1, 1) := by decide +kernel
theorem dX1_settle_20 : decode cX1_settle 20 = .ok (.dup2, 1) := by decide +kernel
theorem dX1_settle_21 : decode cX1_settle 21 = .ok (.iaload, 1) := by decide +kernel
theorem dX1_settle_22 : decode cX1_settle 22 = .ok (.iload_n 3, 1) := by decide +kernel
theorem dX1_settle_23 : decode cX1_settle 23 = .ok (.isub, 1) := by decide +kernel
theorem dX1_settle_24 : decode cX1_settle 24 = .ok (.iastore, 1) := by decide +kernel
theorem dX1_settle_25 : decode cX1_settle 25 = .ok (.aload_n 0, 1) := by decide +kernel
theorem dX1_settle_26 : decode cX1_settle 26 = .ok (.getfield 28, 3) := by decide +kernel
theorem dX1_settle_29 : decode cX1_settle 29 = .ok (.iload_n 1, 1) := by decide +kernel
theorem dX1_settle_30 : decode cX1_settle 30 = .ok (.dup2, 1) := by decide +kernel
theorem dX1_settle_31 : decode cX1_settle 31 = .ok (.iaload, 1) := by decide +kernel
theorem dX1_settle_32 : decode cX1_settle 32 = .ok (.iload_n 3, 1) := by decide +kernel
theorem dX1_settle_33 : decode cX1_settle 33 = .ok (.iadd, 1) := by decide +kernel
theorem dX1_settle_34 : decode cX1_settle 34 = .ok (.iastore, 1) := by decide +kernel
theorem dX1_settle_35 : decode cX1_settle 35 = .ok (.aload_n 0, 1) := by decide +kernel
theorem dX1_settle_36 : decode cX1_settle 36 = .ok (.getfield 37, 3) := by decide +kernel
theorem dX1_settle_39 : decode cX1_settle 39 = .ok (.iconst 0, 1) := by decide +kernel
theorem dX1_settle_40 : decode cX1_settle 40 = .ok (.dup2, 1) := by decide +kernel
theorem dX1_settle_41 : decode cX1_settle 41 = .ok (.iaload, 1) := by decide +kernel
theorem dX1_settle_42 : decode cX1_settle 42 = .ok (.iload_n 3, 1) := by decide +kernel
theorem dX1_settle_43 : decode cX1_settle 43 = .ok (.iadd, 1) := by decide +kernel
theorem dX1_settle_44 : decode cX1_settle 44 = .ok (.iastore, 1) := by decide +kernel
theorem dX1_settle_45 : decode cX1_settle 45 = .ok (.return_, 1) := by decide +kernel
set_option maxRecDepth 20000 in
theorem ggX1_raise_X1_foul : GoodIn wsX1_raise wsX1_foul := goodIn_r _ [8, 9, 10, 11, 12, 13, 14, 15, 16, 17, 18, 19, 20, 21, 22] (by decide +kernel) (by decide +kernel)
set_option maxRecDepth 20000 in
theorem gX1_raise_X1_foul : GoodIn wsX1_raise (wsV RX1 65 RX1 yX1_foul wsX1_foul) := goodIn_app (goodIn_of _ (by decide +kernel)) ggX1_raise_X1_foul
theorem dX1_raise_0 : decode cX1_raise 0 = .ok (.aload_n 0, 1) := by decide +kernel
theorem dX1_raise_1 : decode cX1_raise 1 = .ok (.getfield 22, 3) := by decide +kernel
theorem dX1_raise_4 : decode cX1_raise 4 = .ok (.iload_n 1, 1) := by decide +kernel
theorem dX1_raise_5 : decode cX1_raise 5 = .ok (.dup2, 1) := by decide +kernel
theorem dX1_raise_6 : decode cX1_raise 6 = .ok (.iaload, 1) := by decide +kernel
theorem dX1_raise_7 : decode cX1_raise 7 = .ok (.iload_n 2, 1) := by decide +kernel
theorem dX1_raise_8 : decode cX1_raise 8 = .ok (.iadd, 1) := by decide +kernel
theorem dX1_raise_9 : decode cX1_raise 9 = .ok (.iastore, 1) := by decide +kernel
theorem dX1_raise_10 : decode cX1_raise 10 = .ok (.aload_n 0, 1) := by decide +kernel
theorem dX1_raise_11 : decode cX1_raise 11 = .ok (.getfield 31, 3) := by decide +kernel
theorem dX1_raise_14 : decode cX1_raise 14 = .ok (.iload_n 1, 1) := by decide +kernel
theorem dX1_raise_15 : decode cX1_raise 15 = .ok (.dup2, 1) := by decide +kernel
theorem dX1_raise_16 : decode cX1_raise 16 = .ok (.iaload, 1) := by decide +kernel
theorem dX1_raise_17 : decode cX1_raise 17 = .ok (.iload_n 2, 1) := by decide +kernel
theorem dX1_raise_18 : decode cX1_raise 18 = .ok (.iadd, 1) := by decide +kernel
theorem dX1_raise_19 : decode cX1_raise 19 = .ok (.iastore, 1) := by decide +kernel
theorem dX1_raise_20 : decode cX1_raise 20 = .ok (.aload_n 0, 1) := by decide +kernel
theorem dX1_raise_21 : decode cX1_raise 21 = .ok (.getfield 37, 3) := by decide +kernel
theorem dX1_raise_24 : decode cX1_raise 24 = .ok (.iconst 1, 1) := by decide +kernel
theorem dX1_raise_25 : decode cX1_raise 25 = .ok (.dup2, 1) := by decide +kernel
theorem dX1_raise_26 : decode cX1_raise 26 = .ok (.iaload, 1) := by decide +kernel
theorem dX1_raise_27 : decode cX1_raise 27 = .ok (.iload_n 2, 1) := by decide +kernel
theorem dX1_raise_28 : decode cX1_raise 28 = .ok (.iadd, 1) := by decide +kernel
theorem dX1_raise_29 : decode cX1_raise 29 = .ok (.iastore, 1) := by decide +kernel
theorem dX1_raise_30 : decode cX1_raise 30 = .ok (.aload_n 0, 1) := by decide +kernel
theorem dX1_raise_31 : decode cX1_raise 31 = .ok (.iload_n 1, 1) := by decide +kernel
theorem dX1_raise_32 : decode cX1_raise 32 = .ok (.iconst 3, 1) := by decide +kernel
theorem dX1_raise_33 : decode cX1_raise 33 = .ok (.invokevirtual 65, 3) := by decide +kernel
theorem dX1_raise_36 : decode cX1_raise 36 = .ok (.return_, 1) := by decide +kernel
theorem dX1_liftOf_0 : decode cX1_liftOf 0 = .ok (.iload_n 2, 1) := by decide +kernel
theorem dX1_liftOf_1 : decode cX1_liftOf 1 = .ok (.aload_n 0, 1) := by decide +kernel
theorem dX1_liftOf_2 : decode cX1_liftOf 2 = .ok (.getfield 22, 3) := by decide +kernel
theorem dX1_liftOf_5 : decode cX1_liftOf 5 = .ok (.iload_n 1, 1) := by decide +kernel
theorem dX1_liftOf_6 : decode cX1_liftOf 6 = .ok (.iaload, 1) := by decide +kernel
theorem dX1_liftOf_7 : decode cX1_liftOf 7 = .ok (.isub, 1) := by decide +kernel
theorem dX1_liftOf_8 : decode cX1_liftOf 8 = .ok (.aload_n 0, 1) := by decide +kernel
theorem dX1_liftOf_9 : decode cX1_liftOf 9 = .ok (.getfield 18, 3) := by decide +kernel
theorem dX1_liftOf_12 : decode cX1_liftOf 12 = .ok (.bipush 6, 2) := by decide +kernel
theorem dX1_liftOf_14 : decode cX1_liftOf 14 = .ok (.iaload, 1) := by decide +kernel
theorem dX1_liftOf_15 : decode cX1_liftOf 15 = .ok (.invokestatic 59, 3) := by decide +kernel
theorem dX1_liftOf_18 : decode cX1_liftOf 18 = .ok (.istore_n 3, 1) := by decide +kernel
theorem dX1_liftOf_19 : decode cX1_liftOf 19 = .ok (.iload_n 3, 1) := by decide +kernel
theorem dX1_liftOf_20 : decode cX1_liftOf 20 = .ok (.aload_n 0, 1) := by decide +kernel
theorem dX1_liftOf_21 : decode cX1_liftOf 21 = .ok (.getfield 18, 3) := by decide +kernel
theorem dX1_liftOf_24 : decode cX1_liftOf 24 = .ok (.bipush 7, 2) := by decide +kernel
theorem dX1_liftOf_26 : decode cX1_liftOf 26 = .ok (.iaload, 1) := by decide +kernel
theorem dX1_liftOf_27 : decode cX1_liftOf 27 = .ok (.if_icmp .ge 7, 3) := by decide +kernel
theorem dX1_liftOf_30 : decode cX1_liftOf 30 = .ok (.iconst 0, 1) := by decide +kernel
theorem dX1_liftOf_31 : decode cX1_liftOf 31 = .ok (.goto 4, 3) := by decide +kernel
theorem dX1_liftOf_34 : decode cX1_liftOf 34 = .ok (.iload_n 3, 1) := by decide +kernel
theorem dX1_liftOf_35 : decode cX1_liftOf 35 = .ok (.ireturn, 1) := by decide +kernel
theorem dX1_jobValue_0 : decode cX1_jobValue 0 = .ok (.aload_n 0, 1) := by decide +kernel
theorem dX1_jobValue_1 : decode cX1_jobValue 1 = .ok (.getfield 34, 3) := by decide +kernel
theorem dX1_jobValue_4 : decode cX1_jobValue 4 = .ok (.iload_n 1, 1) := by decide +kernel
theorem dX1_jobValue_5 : decode cX1_jobValue 5 = .ok (.iconst 4, 1) := by decide +kernel
theorem dX1_jobValue_6 : decode cX1_jobValue 6 = .ok (.imul, 1) := by decide +kernel
theorem dX1_jobValue_7 : decode cX1_jobValue 7 = .ok (.iload_n 2, 1) := by decide +kernel
theorem dX1_jobValue_8 : decode cX1_jobValue 8 = .ok (.iadd, 1) := by decide +kernel
theorem dX1_jobValue_9 : decode cX1_jobValue 9 = .ok (.iaload, 1) := by decide +kernel
theorem dX1_jobValue_10 : decode cX1_jobValue 10 = .ok (.ireturn, 1) := by decide +kernel
theorem dX1_appendJob_0 : decode cX1_appendJob 0 = .ok (.aload_n 0, 1) := by decide +kernel
theorem dX1_appendJob_1 : decode cX1_appendJob 1 = .ok (.getfield 15, 3) := by decide +kernel
theorem dX1_appendJob_4 : decode cX1_appendJob 4 = .ok (.iconst 4, 1) := by decide +kernel
theorem dX1_appendJob_5 : decode cX1_appendJob 5 = .ok (.imul, 1) := by decide +kernel
theorem dX1_appendJob_6 : decode cX1_appendJob 6 = .ok (.istore 4, 2) := by decide +kernel
theorem dX1_appendJob_8 : decode cX1_appendJob 8 = .ok (.aload_n 0, 1) := by decide +kernel
theorem dX1_appendJob_9 : decode cX1_appendJob 9 = .ok (.getfield 34, 3) := by decide +kernel
theorem dX1_appendJob_12 : decode cX1_appendJob 12 = .ok (.iload 4, 2) := by decide +kernel
theorem dX1_appendJob_14 : decode cX1_appendJob 14 = .ok (.iconst 0, 1) := by decide +kernel
theorem dX1_appendJob_15 : decode cX1_appendJob 15 = .ok (.iadd, 1) := by decide +kernel
theorem dX1_appendJob_16 : decode cX1_appendJob 16 = .ok (.iload_n 1, 1) := by decide +kernel
theorem dX1_appendJob_17 : decode cX1_appendJob 17 = .ok (.iastore, 1) := by decide +kernel
theorem dX1_appendJob_18 : decode cX1_appendJob 18 = .ok (.aload_n 0, 1) := by decide +kernel
theorem dX1_appendJob_19 : decode cX1_appendJob 19 = .ok (.getfield 34, 3) := by decide +kernel
theorem dX1_appendJob_22 : decode cX1_appendJob 22 = .ok (.iload 4, 2) := by decide +kernel
theorem dX1_appendJob_24 : decode cX1_appendJob 24 = .ok (.iconst 1, 1) := by decide +kernel
theorem dX1_appendJob_25 : decode cX1_appendJob 25 = .ok (.iadd, 1) := by decide +kernel
theorem dX1_appendJob_26 : decode cX1_appendJob 26 = .ok (.iload_n 2, 1) := by decide +kernel
theorem dX1_appendJob_27 : decode cX1_appendJob 27 = .ok (.iastore, 1) := by decide +kernel
theorem dX1_appendJob_28 : decode cX1_appendJob 28 = .ok (.aload_n 0, 1) := by decide +kernel
theorem dX1_appendJob_29 : decode cX1_appendJob 29 = .ok (.getfield 34, 3) := by decide +kernel
theorem dX1_appendJob_32 : decode cX1_appendJob 32 = .ok (.iload 4, 2) := by decide +kernel
theorem dX1_appendJob_34 : decode cX1_appendJob 34 = .ok (.iconst 2, 1) := by decide +kernel
theorem dX1_appendJob_35 : decode cX1_appendJob 35 = .ok (.iadd, 1) := by decide +kernel
theorem dX1_appendJob_36 : decode cX1_appendJob 36 = .ok (.iload_n 3, 1) := by decide +kernel
theorem dX1_appendJob_37 : decode cX1_appendJob 37 = .ok (.iastore, 1) := by decide +kernel
theorem dX1_appendJob_38 : decode cX1_appendJob 38 = .ok (.aload_n 0, 1) := by decide +kernel
theorem dX1_appendJob_39 : decode cX1_appendJob 39 = .ok (.getfield 34, 3) := by decide +kernel
theorem dX1_appendJob_42 : decode cX1_appendJob 42 = .ok (.iload 4, 2) := by decide +kernel
theorem dX1_appendJob_44 : decode cX1_appendJob 44 = .ok (.iconst 3, 1) := by decide +kernel
theorem dX1_appendJob_45 : decode cX1_appendJob 45 = .ok (.iadd, 1) := by decide +kernel
theorem dX1_appendJob_46 : decode cX1_appendJob 46 = .ok (.iload_n 1, 1) := by decide +kernel
theorem dX1_appendJob_47 : decode cX1_appendJob 47 = .ok (.iastore, 1) := by decide +kernel
theorem dX1_appendJob_48 : decode cX1_appendJob 48 = .ok (.aload_n 0, 1) := by decide +kernel
theorem dX1_appendJob_49 : decode cX1_appendJob 49 = .ok (.dup, 1) := by decide +kernel
theorem dX1_appendJob_50 : decode cX1_appendJob 50 = .ok (.getfield 15, 3) := by decide +kernel
theorem dX1_appendJob_53 : decode cX1_appendJob 53 = .ok (.iconst 1, 1) := by decide +kernel
theorem dX1_appendJob_54 : decode cX1_appendJob 54 = .ok (.iadd, 1) := by decide +kernel
theorem dX1_appendJob_55 : decode cX1_appendJob 55 = .ok (.putfield 15, 3) := by decide +kernel
theorem dX1_appendJob_58 : decode cX1_appendJob 58 = .ok (.return_, 1) := by decide +kernel
theorem dX1_removeJob_0 : decode cX1_removeJob 0 = .ok (.iload_n 1, 1) := by decide +kernel
theorem dX1_removeJob_1 : decode cX1_removeJob 1 = .ok (.iconst 1, 1) := by decide +kernel
theorem dX1_removeJob_2 : decode cX1_removeJob 2 = .ok (.iadd, 1) := by decide +kernel
theorem dX1_removeJob_3 : decode cX1_removeJob 3 = .ok (.iconst 4, 1) := by decide +kernel
theorem dX1_removeJob_4 : decode cX1_removeJob 4 = .ok (.imul, 1) := by decide +kernel
theorem dX1_removeJob_5 : decode cX1_removeJob 5 = .ok (.istore_n 2, 1) := by decide +kernel
theorem dX1_removeJob_6 : decode cX1_removeJob 6 = .ok (.aload_n 0, 1) := by decide +kernel
theorem dX1_removeJob_7 : decode cX1_removeJob 7 = .ok (.getfield 34, 3) := by decide +kernel
theorem dX1_removeJob_10 : decode cX1_removeJob 10 = .ok (.iload_n 2, 1) := by decide +kernel
theorem dX1_removeJob_11 : decode cX1_removeJob 11 = .ok (.aload_n 0, 1) := by decide +kernel
theorem dX1_removeJob_12 : decode cX1_removeJob 12 = .ok (.getfield 34, 3) := by decide +kernel
theorem dX1_removeJob_15 : decode cX1_removeJob 15 = .ok (.iload_n 1, 1) := by decide +kernel
theorem dX1_removeJob_16 : decode cX1_removeJob 16 = .ok (.iconst 4, 1) := by decide +kernel
theorem dX1_removeJob_17 : decode cX1_removeJob 17 = .ok (.imul, 1) := by decide +kernel
theorem dX1_removeJob_18 : decode cX1_removeJob 18 = .ok (.aload_n 0, 1) := by decide +kernel
theorem dX1_removeJob_19 : decode cX1_removeJob 19 = .ok (.getfield 15, 3) := by decide +kernel
theorem dX1_removeJob_22 : decode cX1_removeJob 22 = .ok (.iconst 4, 1) := by decide +kernel
theorem dX1_removeJob_23 : decode cX1_removeJob 23 = .ok (.imul, 1) := by decide +kernel
theorem dX1_removeJob_24 : decode cX1_removeJob 24 = .ok (.iload_n 2, 1) := by decide +kernel
theorem dX1_removeJob_25 : decode cX1_removeJob 25 = .ok (.isub, 1) := by decide +kernel
theorem dX1_removeJob_26 : decode cX1_removeJob 26 = .ok (.invokestatic 43, 3) := by decide +kernel
theorem dX1_removeJob_29 : decode cX1_removeJob 29 = .ok (.aload_n 0, 1) := by decide +kernel
theorem dX1_removeJob_30 : decode cX1_removeJob 30 = .ok (.dup, 1) := by decide +kernel
theorem dX1_removeJob_31 : decode cX1_removeJob 31 = .ok (.getfield 15, 3) := by decide +kernel
theorem dX1_removeJob_34 : decode cX1_removeJob 34 = .ok (.iconst 1, 1) := by decide +kernel
theorem dX1_removeJob_35 : decode cX1_removeJob 35 = .ok (.isub, 1) := by decide +kernel
theorem dX1_removeJob_36 : decode cX1_removeJob 36 = .ok (.putfield 15, 3) := by decide +kernel
theorem dX1_removeJob_39 : decode cX1_removeJob 39 = .ok (.return_, 1) := by decide +kernel
set_option maxRecDepth 20000 in
theorem ggX1_tamp_X1_jobValue : GoodIn wsX1_tamp wsX1_jobValue := goodIn_r _ [7, 8, 44, 45, 46, 47, 48, 49, 50, 51, 52] (by decide +kernel) (by decide +kernel)
set_option maxRecDepth 20000 in
theorem gX1_tamp_X1_jobValue : GoodIn wsX1_tamp (wsV RX1 69 RX1 yX1_jobValue wsX1_jobValue) := goodIn_app (goodIn_of _ (by decide +kernel)) ggX1_tamp_X1_jobValue
set_option maxRecDepth 20000 in
theorem ggX1_tamp_X1_liftOf : GoodIn wsX1_tamp wsX1_liftOf := goodIn_r _ [12, 13, 14, 15, 16, 17, 18, 44, 45, 46, 47, 48, 49, 50, 51, 52] (by decide +kernel) (by decide +kernel)
set_option maxRecDepth 20000 in
theorem gX1_tamp_X1_liftOf : GoodIn wsX1_tamp (wsV RX1 72 RX1 yX1_liftOf wsX1_liftOf) := goodIn_app (goodIn_of _ (by decide +kernel)) ggX1_tamp_X1_liftOf
set_option maxRecDepth 20000 in
theorem ggX1_tamp_X4_minutesFor : GoodIn wsX1_tamp wsX4_minutesFor := goodIn_r _ [21] (by decide +kernel) (by decide +kernel)
set_option maxRecDepth 20000 in
theorem gX1_tamp_X4_minutesFor_n75 : GoodIn wsX1_tamp (wsX4_minutesFor) := ggX1_tamp_X4_minutesFor
set_option maxRecDepth 20000 in
theorem ggX1_tamp_X1_raise : GoodIn wsX1_tamp wsX1_raise := goodIn_r _ [25, 13, 26, 2, 27, 28, 29, 6, 30, 31, 15, 16, 17, 18, 44, 45, 46, 47, 48, 49, 50, 51, 52] (by decide +kernel) (by decide +kernel)
set_option maxRecDepth 20000 in
theorem gX1_tamp_X1_raise : GoodIn wsX1_tamp (wsV RX1 79 RX1 yX1_raise wsX1_raise) := goodIn_app (goodIn_of _ (by decide +kernel)) ggX1_tamp_X1_raise
set_option maxRecDepth 20000 in
theorem ggX1_tamp_X1_goOn : GoodIn wsX1_tamp wsX1_goOn := goodIn_r _ [35, 8, 36, 37, 38, 6, 39, 1, 40, 41, 42, 43, 44, 45, 46, 47, 48, 49, 50, 51, 52] (by decide +kernel) (by decide +kernel)
set_option maxRecDepth 20000 in
theorem gX1_tamp_X1_goOn : GoodIn wsX1_tamp (wsV RX1 82 RX1 yX1_goOn wsX1_goOn) := goodIn_app (goodIn_of _ (by decide +kernel)) ggX1_tamp_X1_goOn
theorem dX1_tamp_0 : decode cX1_tamp 0 = .ok (.iload_n 1, 1) := by decide +kernel
theorem dX1_tamp_1 : decode cX1_tamp 1 = .ok (.istore_n 2, 1) := by decide +kernel
theorem dX1_tamp_2 : decode cX1_tamp 2 = .ok (.iconst 0, 1) := by decide +kernel
theorem dX1_tamp_3 : decode cX1_tamp 3 = .ok (.istore_n 3, 1) := by decide +kernel
theorem dX1_tamp_4 : decode cX1_tamp 4 = .ok (.iconst 0, 1) := by decide +kernel
theorem dX1_tamp_5 : decode cX1_tamp 5 = .ok (.istore 4, 2) := by decide +kernel
theorem dX1_tamp_7 : decode cX1_tamp 7 = .ok (.iload 4, 2) := by decide +kernel
theorem dX1_tamp_9 : decode cX1_tamp 9 = .ok (.sipush 360, 3) := by decide +kernel
theorem dX1_tamp_12 : decode cX1_tamp 12 = .ok (.if_icmp .ge 78, 3) := by decide +kernel
theorem dX1_tamp_15 : decode cX1_tamp 15 = .ok (.aload_n 0, 1) := by decide +kernel
theorem dX1_tamp_16 : decode cX1_tamp 16 = .ok (.getfield 15, 3) := by decide +kernel
theorem dX1_tamp_19 : decode cX1_tamp 19 = .ok (.ifCond .le 71, 3) := by decide +kernel
theorem dX1_tamp_22 : decode cX1_tamp 22 = .ok (.aload_n 0, 1) := by decide +kernel
theorem dX1_tamp_23 : decode cX1_tamp 23 = .ok (.iconst 0, 1) := by decide +kernel
theorem dX1_tamp_24 : decode cX1_tamp 24 = .ok (.iconst 3, 1) := by decide +kernel
theorem dX1_tamp_25 : decode cX1_tamp 25 = .ok (.invokevirtual 69, 3) := by decide +kernel
theorem dX1_tamp_28 : decode cX1_tamp 28 = .ok (.istore 5, 2) := by decide +kernel
theorem dX1_tamp_30 : decode cX1_tamp 30 = .ok (.aload_n 0, 1) := by decide +kernel
theorem dX1_tamp_31 : decode cX1_tamp 31 = .ok (.iload 5, 2) := by decide +kernel
theorem dX1_tamp_33 : decode cX1_tamp 33 = .ok (.aload_n 0, 1) := by decide +kernel
theorem dX1_tamp_34 : decode cX1_tamp 34 = .ok (.iconst 0, 1) := by decide +kernel
theorem dX1_tamp_35 : decode cX1_tamp 35 = .ok (.iconst 2, 1) := by decide +kernel
theorem dX1_tamp_36 : decode cX1_tamp 36 = .ok (.invokevirtual 69, 3) := by decide +kernel
theorem dX1_tamp_39 : decode cX1_tamp 39 = .ok (.invokevirtual 72, 3) := by decide +kernel
theorem dX1_tamp_42 : decode cX1_tamp 42 = .ok (.istore 6, 2) := by decide +kernel
theorem dX1_tamp_44 : decode cX1_tamp 44 = .ok (.iload 6, 2) := by decide +kernel
theorem dX1_tamp_46 : decode cX1_tamp 46 = .ok (.ifCond .le 34, 3) := by decide +kernel
theorem dX1_tamp_49 : decode cX1_tamp 49 = .ok (.iload 6, 2) := by decide +kernel
theorem dX1_tamp_51 : decode cX1_tamp 51 = .ok (.invokestatic 75, 3) := by decide +kernel
theorem dX1_tamp_54 : decode cX1_tamp 54 = .ok (.iload_n 2, 1) := by decide +kernel
theorem dX1_tamp_55 : decode cX1_tamp 55 = .ok (.if_icmp .le 6, 3) := by decide +kernel
theorem dX1_tamp_58 : decode cX1_tamp 58 = .ok (.goto 32, 3) := by decide +kernel
theorem dX1_tamp_61 : decode cX1_tamp 61 = .ok (.iload_n 2, 1) := by decide +kernel
theorem dX1_tamp_62 : decode cX1_tamp 62 = .ok (.iload 6, 2) := by decide +kernel
theorem dX1_tamp_64 : decode cX1_tamp 64 = .ok (.invokestatic 75, 3) := by decide +kernel
theorem dX1_tamp_67 : decode cX1_tamp 67 = .ok (.isub, 1) := by decide +kernel
theorem dX1_tamp_68 : decode cX1_tamp 68 = .ok (.istore_n 2, 1) := by decide +kernel
theorem dX1_tamp_69 : decode cX1_tamp 69 = .ok (.aload_n 0, 1) := by decide +kernel
theorem dX1_tamp_70 : decode cX1_tamp 70 = .ok (.iload 5, 2) := by decide +kernel
theorem dX1_tamp_72 : decode cX1_tamp 72 = .ok (.iload 6, 2) := by decide +kernel
theorem dX1_tamp_74 : decode cX1_tamp 74 = .ok (.invokevirtual 79, 3) := by decide +kernel
theorem dX1_tamp_77 : decode cX1_tamp 77 = .ok (.iinc 3 1, 3) := by decide +kernel
theorem dX1_tamp_80 : decode cX1_tamp 80 = .ok (.aload_n 0, 1) := by decide +kernel
theorem dX1_tamp_81 : decode cX1_tamp 81 = .ok (.invokevirtual 82, 3) := by decide +kernel
theorem dX1_tamp_84 : decode cX1_tamp 84 = .ok (.iinc 4 1, 3) := by decide +kernel
theorem dX1_tamp_87 : decode cX1_tamp 87 = .ok (.goto (-80), 3) := by decide +kernel
theorem dX1_tamp_90 : decode cX1_tamp 90 = .ok (.aload_n 0, 1) := by decide +kernel
theorem dX1_tamp_91 : decode cX1_tamp 91 = .ok (.getfield 37, 3) := by decide +kernel
theorem dX1_tamp_94 : decode cX1_tamp 94 = .ok (.iconst 3, 1) := by decide +kernel
theorem dX1_tamp_95 : decode cX1_tamp 95 = .ok (.dup2, 1) := by decide +kernel
theorem dX1_tamp_96 : decode cX1_tamp 96 = .ok (.iaload, 1) := by decide +kernel
theorem dX1_tamp_97 : decode cX1_tamp 97 = .ok (.iload_n 1, 1) := by decide +kernel
theorem dX1_tamp_98 : decode cX1_tamp 98 = .ok (.iload_n 2, 1) := by decide +kernel
theorem dX1_tamp_99 : decode cX1_tamp 99 = .ok (.isub, 1) := by decide +kernel
theorem dX1_tamp_100 : decode cX1_tamp 100 = .ok (.iadd, 1) := by decide +kernel
theorem dX1_tamp_101 : decode cX1_tamp 101 = .ok (.iastore, 1) := by decide +kernel
theorem dX1_tamp_102 : decode cX1_tamp 102 = .ok (.iload_n 3, 1) := by decide +kernel
theorem dX1_tamp_103 : decode cX1_tamp 103 = .ok (.ireturn, 1) := by decide +kernel
set_option maxRecDepth 20000 in
theorem ggX1_goOn_X1_removeJob : GoodIn wsX1_goOn wsX1_removeJob := goodIn_r _ [6, 1, 7, 8, 9, 10, 11, 12, 13, 14, 15, 16, 17, 18, 19, 20] (by decide +kernel) (by decide +kernel)
set_option maxRecDepth 20000 in
theorem gX1_goOn_X1_removeJob : GoodIn wsX1_goOn (wsV RX1 85 RX1 yX1_removeJob wsX1_removeJob) := goodIn_app (goodIn_of _ (by decide +kernel)) ggX1_goOn_X1_removeJob
theorem dX1_goOn_0 : decode cX1_goOn 0 = .ok (.aload_n 0, 1) := by decide +kernel
theorem dX1_goOn_1 : decode cX1_goOn 1 = .ok (.getfield 34, 3) := by decide +kernel
theorem dX1_goOn_4 : decode cX1_goOn 4 = .ok (.iconst 3, 1) := by decide +kernel
theorem dX1_goOn_5 : decode cX1_goOn 5 = .ok (.iaload, 1) := by decide +kernel
theorem dX1_goOn_6 : decode cX1_goOn 6 = .ok (.aload_n 0, 1) := by decide +kernel
theorem dX1_goOn_7 : decode cX1_goOn 7 = .ok (.getfield 34, 3) := by decide +kernel
theorem dX1_goOn_10 : decode cX1_goOn 10 = .ok (.iconst 1, 1) := by decide +kernel
theorem dX1_goOn_11 : decode cX1_goOn 11 = .ok (.iaload, 1) := by decide +kernel
theorem dX1_goOn_12 : decode cX1_goOn 12 = .ok (.if_icmp .ge 16, 3) := by decide +kernel
theorem dX1_goOn_15 : decode cX1_goOn 15 = .ok (.aload_n 0, 1) := by decide +kernel
theorem dX1_goOn_16 : decode cX1_goOn 16 = .ok (.getfield 34, 3) := by decide +kernel
theorem dX1_goOn_19 : decode cX1_goOn 19 = .ok (.iconst 3, 1) := by decide +kernel
theorem dX1_goOn_20 : decode cX1_goOn 20 = .ok (.dup2, 1) := by decide +kernel
theorem dX1_goOn_21 : decode cX1_goOn 21 = .ok (.iaload, 1) := by decide +kernel
theorem dX1_goOn_22 : decode cX1_goOn 22 = .ok (.iconst 1, 1) := by decide +kernel
theorem dX1_goOn_23 : decode cX1_goOn 23 = .ok (.iadd, 1) := by decide +kernel
theorem dX1_goOn_24 : decode cX1_goOn 24 = .ok (.iastore, 1) := by decide +kernel
theorem dX1_goOn_25 : decode cX1_goOn 25 = .ok (.goto 8, 3) := by decide +kernel
theorem dX1_goOn_28 : decode cX1_goOn 28 = .ok (.aload_n 0, 1) := by decide +kernel
theorem dX1_goOn_29 : decode cX1_goOn 29 = .ok (.iconst 0, 1) := by decide +kernel
theorem dX1_goOn_30 : decode cX1_goOn 30 = .ok (.invokevirtual 85, 3) := by decide +kernel
theorem dX1_goOn_33 : decode cX1_goOn 33 = .ok (.return_, 1) := by decide +kernel
theorem dX2_init_0 : decode cX2_init 0 = .ok (.aload_n 0, 1) := by decide +kernel
theorem dX2_init_1 : decode cX2_init 1 = .ok (.invokespecial 3, 3) := by decide +kernel
theorem dX2_init_4 : decode cX2_init 4 = .ok (.aload_n 0, 1) := by decide +kernel
theorem dX2_init_5 : decode cX2_init 5 = .ok (.bipush 60, 2) := by decide +kernel
theorem dX2_init_7 : decode cX2_init 7 = .ok (.newarray .int, 2) := by decide +kernel
theorem dX2_init_9 : decode cX2_init 9 = .ok (.putfield 9, 3) := by decide +kernel
theorem dX2_init_12 : decode cX2_init 12 = .ok (.aload_n 0, 1) := by decide +kernel
theorem dX2_init_13 : decode cX2_init 13 = .ok (.bipush 60, 2) := by decide +kernel
theorem dX2_init_15 : decode cX2_init 15 = .ok (.newarray .int, 2) := by decide +kernel
theorem dX2_init_17 : decode cX2_init 17 = .ok (.putfield 15, 3) := by decide +kernel
theorem dX2_init_20 : decode cX2_init 20 = .ok (.aload_n 0, 1) := by decide +kernel
theorem dX2_init_21 : decode cX2_init 21 = .ok (.bipush 60, 2) := by decide +kernel
theorem dX2_init_23 : decode cX2_init 23 = .ok (.newarray .boolean, 2) := by decide +kernel
theorem dX2_init_25 : decode cX2_init 25 = .ok (.putfield 18, 3) := by decide +kernel
theorem dX2_init_28 : decode cX2_init 28 = .ok (.aload_n 0, 1) := by decide +kernel
theorem dX2_init_29 : decode cX2_init 29 = .ok (.iconst 0, 1) := by decide +kernel
theorem dX2_init_30 : decode cX2_init 30 = .ok (.putfield 22, 3) := by decide +kernel
theorem dX2_init_33 : decode cX2_init 33 = .ok (.aload_n 0, 1) := by decide +kernel
theorem dX2_init_34 : decode cX2_init 34 = .ok (.iconst 0, 1) := by decide +kernel
theorem dX2_init_35 : decode cX2_init 35 = .ok (.putfield 26, 3) := by decide +kernel
theorem dX2_init_38 : decode cX2_init 38 = .ok (.aload_n 0, 1) := by decide +kernel
theorem dX2_init_39 : decode cX2_init 39 = .ok (.iconst 0, 1) := by decide +kernel
theorem dX2_init_40 : decode cX2_init 40 = .ok (.putfield 29, 3) := by decide +kernel
theorem dX2_init_43 : decode cX2_init 43 = .ok (.aload_n 0, 1) := by decide +kernel
theorem dX2_init_44 : decode cX2_init 44 = .ok (.iconst 0, 1) := by decide +kernel
theorem dX2_init_45 : decode cX2_init 45 = .ok (.putfield 32, 3) := by decide +kernel
theorem dX2_init_48 : decode cX2_init 48 = .ok (.aload_n 0, 1) := by decide +kernel
theorem dX2_init_49 : decode cX2_init 49 = .ok (.aload_n 1, 1) := by decide +kernel
theorem dX2_init_50 : decode cX2_init 50 = .ok (.putfield 35, 3) := by decide +kernel
theorem dX2_init_53 : decode cX2_init 53 = .ok (.return_, 1) := by decide +kernel
set_option maxRecDepth 20000 in
theorem ggX2_look_X2_findHeights : GoodIn wsX2_look wsX2_findHeights := goodIn_r _ [7, 8, 9, 10, 11, 12, 13, 14, 15, 16, 46, 47, 48, 49, 50, 51, 52, 53, 54, 55, 56, 57, 58, 59, 60, 61, 62] (by decide +kernel) (by decide +kernel)
set_option maxRecDepth 20000 in
theorem gX2_look_X2_findHeights : GoodIn wsX2_look (wsV RX2 39 RX2 yX2_findHeights wsX2_findHeights) := goodIn_app (goodIn_of _ (by decide +kernel)) ggX2_look_X2_findHeights
set_option maxRecDepth 20000 in
theorem ggX2_look_X2_findHanging : GoodIn wsX2_look wsX2_findHanging := goodIn_r _ [20, 21, 8, 10, 22, 9, 23, 24, 25, 6, 26, 16, 11, 46, 47, 48, 49, 50, 51, 52, 53, 54, 55, 56, 57, 58, 59, 60, 61, 62] (by decide +kernel) (by decide +kernel)
set_option maxRecDepth 20000 in
theorem gX2_look_X2_findHanging : GoodIn wsX2_look (wsV RX2 42 RX2 yX2_findHanging wsX2_findHanging) := goodIn_app (goodIn_of _ (by decide +kernel)) ggX2_look_X2_findHanging
set_option maxRecDepth 20000 in
theorem ggX2_look_X2_findWorst : GoodIn wsX2_look wsX2_findWorst := goodIn_r _ [30, 31, 1, 8, 10, 32, 33, 14, 34, 35, 36, 37, 6, 38, 9, 16, 39, 40, 41, 46, 47, 48, 49, 50, 51, 52, 53, 54, 55, 56, 57, 58, 59, 60, 61, 62] (by decide +kernel) (by decide +kernel)
set_option maxRecDepth 20000 in
theorem gX2_look_X2_findWorst : GoodIn wsX2_look (wsV RX2 45 RX2 yX2_findWorst wsX2_findWorst) := goodIn_app (goodIn_of _ (by decide +kernel)) ggX2_look_X2_findWorst
set_option maxRecDepth 20000 in
theorem ggX2_look_X2_orderOf : GoodIn wsX2_look wsX2_orderOf := goodIn_r _ [45, 8, 9, 46, 47, 48, 49, 50, 51, 52, 53, 54, 55, 56, 57, 58, 59, 60, 61, 62] (by decide +kernel) (by decide +kernel)
set_option maxRecDepth 20000 in
theorem gX2_look_X2_orderOf : GoodIn wsX2_look (wsV RX2 48 RX2 yX2_orderOf wsX2_orderOf) := goodIn_app (goodIn_of _ (by decide +kernel)) ggX2_look_X2_orderOf
theorem dX2_look_0 : decode cX2_look 0 = .ok (.aload_n 0, 1) := by decide +kernel
theorem dX2_look_1 : decode cX2_look 1 = .ok (.invokevirtual 39, 3) := by decide +kernel
theorem dX2_look_4 : decode cX2_look 4 = .ok (.aload_n 0, 1) := by decide +kernel
theorem dX2_look_5 : decode cX2_look 5 = .ok (.invokevirtual 42, 3) := by decide +kernel
theorem dX2_look_8 : decode cX2_look 8 = .ok (.aload_n 0, 1) := by decide +kernel
theorem dX2_look_9 : decode cX2_look 9 = .ok (.invokevirtual 45, 3) := by decide +kernel
theorem dX2_look_12 : decode cX2_look 12 = .ok (.aload_n 0, 1) := by decide +kernel
theorem dX2_look_13 : decode cX2_look 13 = .ok (.aload_n 0, 1) := by decide +kernel
theorem dX2_look_14 : decode cX2_look 14 = .ok (.aload_n 0, 1) := by decide +kernel
theorem dX2_look_15 : decode cX2_look 15 = .ok (.getfield 29, 3) := by decide +kernel
theorem dX2_look_18 : decode cX2_look 18 = .ok (.invokevirtual 48, 3) := by decide +kernel
theorem dX2_look_21 : decode cX2_look 21 = .ok (.putfield 32, 3) := by decide +kernel
theorem dX2_look_24 : decode cX2_look 24 = .ok (.return_, 1) := by decide +kernel
theorem dX2_voidAt_0 : decode cX2_voidAt 0 = .ok (.aload_n 0, 1) := by decide +kernel
theorem dX2_voidAt_1 : decode cX2_voidAt 1 = .ok (.getfield 9, 3) := by decide +kernel
theorem dX2_voidAt_4 : decode cX2_voidAt 4 = .ok (.iload_n 1, 1) := by decide +kernel
theorem dX2_voidAt_5 : decode cX2_voidAt 5 = .ok (.iaload, 1) := by decide +kernel
theorem dX2_voidAt_6 : decode cX2_voidAt 6 = .ok (.aload_n 0, 1) := by decide +kernel
theorem dX2_voidAt_7 : decode cX2_voidAt 7 = .ok (.getfield 35, 3) := by decide +kernel
theorem dX2_voidAt_10 : decode cX2_voidAt 10 = .ok (.getfield 52, 3) := by decide +kernel
theorem dX2_voidAt_13 : decode cX2_voidAt 13 = .ok (.iload_n 1, 1) := by decide +kernel
theorem dX2_voidAt_14 : decode cX2_voidAt 14 = .ok (.iaload, 1) := by decide +kernel
theorem dX2_voidAt_15 : decode cX2_voidAt 15 = .ok (.isub, 1) := by decide +kernel
theorem dX2_voidAt_16 : decode cX2_voidAt 16 = .ok (.ireturn, 1) := by decide +kernel
set_option maxRecDepth 20000 in
theorem ggX2_defectAt_X4_isWithin : GoodIn wsX2_defectAt wsX4_isWithin := goodIn_r _ [7] (by decide +kernel) (by decide +kernel)
set_option maxRecDepth 20000 in
theorem gX2_defectAt_X4_isWithin_n63 : GoodIn wsX2_defectAt (wsX4_isWithin) := ggX2_defectAt_X4_isWithin
theorem dX2_defectAt_0 : decode cX2_defectAt 0 = .ok (.aload_n 0, 1) := by decide +kernel
theorem dX2_defectAt_1 : decode cX2_defectAt 1 = .ok (.getfield 35, 3) := by decide +kernel
theorem dX2_defectAt_4 : decode cX2_defectAt 4 = .ok (.getfield 57, 3) := by decide +kernel
theorem dX2_defectAt_7 : decode cX2_defectAt 7 = .ok (.iconst 2, 1) := by decide +kernel
theorem dX2_defectAt_8 : decode cX2_defectAt 8 = .ok (.iaload, 1) := by decide +kernel
theorem dX2_defectAt_9 : decode cX2_defectAt 9 = .ok (.istore_n 2, 1) := by decide +kernel
theorem dX2_defectAt_10 : decode cX2_defectAt 10 = .ok (.iload_n 1, 1) := by decide +kernel
theorem dX2_defectAt_11 : decode cX2_defectAt 11 = .ok (.iload_n 2, 1) := by decide +kernel
theorem dX2_defectAt_12 : decode cX2_defectAt 12 = .ok (.aload_n 0, 1) := by decide +kernel
theorem dX2_defectAt_13 : decode cX2_defectAt 13 = .ok (.getfield 35, 3) := by decide +kernel
theorem dX2_defectAt_16 : decode cX2_defectAt 16 = .ok (.getfield 60, 3) := by decide +kernel
theorem dX2_defectAt_19 : decode cX2_defectAt 19 = .ok (.iload_n 2, 1) := by decide +kernel
theorem dX2_defectAt_20 : decode cX2_defectAt 20 = .ok (.isub, 1) := by decide +kernel
theorem dX2_defectAt_21 : decode cX2_defectAt 21 = .ok (.iconst 1, 1) := by decide +kernel
theorem dX2_defectAt_22 : decode cX2_defectAt 22 = .ok (.isub, 1) := by decide +kernel
theorem dX2_defectAt_23 : decode cX2_defectAt 23 = .ok (.invokestatic 63, 3) := by decide +kernel
theorem dX2_defectAt_26 : decode cX2_defectAt 26 = .ok (.ifCond .ne 5, 3) := by decide +kernel
theorem dX2_defectAt_29 : decode cX2_defectAt 29 = .ok (.iconst 0, 1) := by decide +kernel
theorem dX2_defectAt_30 : decode cX2_defectAt 30 = .ok (.ireturn, 1) := by decide +kernel
theorem dX2_defectAt_31 : decode cX2_defectAt 31 = .ok (.iconst 2, 1) := by decide +kernel
theorem dX2_defectAt_32 : decode cX2_defectAt 32 = .ok (.aload_n 0, 1) := by decide +kernel
theorem dX2_defectAt_33 : decode cX2_defectAt 33 = .ok (.getfield 9, 3) := by decide +kernel
theorem dX2_defectAt_36 : decode cX2_defectAt 36 = .ok (.iload_n 1, 1) := by decide +kernel
theorem dX2_defectAt_37 : decode cX2_defectAt 37 = .ok (.iaload, 1) := by decide +kernel
theorem dX2_defectAt_38 : decode cX2_defectAt 38 = .ok (.imul, 1) := by decide +kernel
theorem dX2_defectAt_39 : decode cX2_defectAt 39 = .ok (.aload_n 0, 1) := by decide +kernel
theorem dX2_defectAt_40 : decode cX2_defectAt 40 = .ok (.getfield 9, 3) := by decide +kernel
theorem dX2_defectAt_43 : decode cX2_defectAt 43 = .ok (.iload_n 1, 1) := by decide +kernel
theorem dX2_defectAt_44 : decode cX2_defectAt 44 = .ok (.iload_n 2, 1) := by decide +kernel
theorem dX2_defectAt_45 : decode cX2_defectAt 45 = .ok (.isub, 1) := by decide +kernel
theorem dX2_defectAt_46 : decode cX2_defectAt 46 = .ok (.iaload, 1) := by decide +kernel
theorem dX2_defectAt_47 : decode cX2_defectAt 47 = .ok (.isub, 1) := by decide +kernel
theorem dX2_defectAt_48 : decode cX2_defectAt 48 = .ok (.aload_n 0, 1) := by decide +kernel
theorem dX2_defectAt_49 : decode cX2_defectAt 49 = .ok (.getfield 9, 3) := by decide +kernel
theorem dX2_defectAt_52 : decode cX2_defectAt 52 = .ok (.iload_n 1, 1) := by decide +kernel
theorem dX2_defectAt_53 : decode cX2_defectAt 53 = .ok (.iload_n 2, 1) := by decide +kernel
theorem dX2_defectAt_54 : decode cX2_defectAt 54 = .ok (.iadd, 1) := by decide +kernel
theorem dX2_defectAt_55 : decode cX2_defectAt 55 = .ok (.iaload, 1) := by decide +kernel
theorem dX2_defectAt_56 : decode cX2_defectAt 56 = .ok (.isub, 1) := by decide +kernel
theorem dX2_defectAt_57 : decode cX2_defectAt 57 = .ok (.ireturn, 1) := by decide +kernel
theorem dX2_orderOf_0 : decode cX2_orderOf 0 = .ok (.iload_n 1, 1) := by decide +kernel
theorem dX2_orderOf_1 : decode cX2_orderOf 1 = .ok (.aload_n 0, 1) := by decide +kernel
theorem dX2_orderOf_2 : decode cX2_orderOf 2 = .ok (.getfield 35, 3) := by decide +kernel
theorem dX2_orderOf_5 : decode cX2_orderOf 5 = .ok (.getfield 57, 3) := by decide +kernel
theorem dX2_orderOf_8 : decode cX2_orderOf 8 = .ok (.iconst 3, 1) := by decide +kernel
theorem dX2_orderOf_9 : decode cX2_orderOf 9 = .ok (.iaload, 1) := by decide +kernel
theorem dX2_orderOf_10 : decode cX2_orderOf 10 = .ok (.if_icmp .gt 5, 3) := by decide +kernel
theorem dX2_orderOf_13 : decode cX2_orderOf 13 = .ok (.iconst 0, 1) := by decide +kernel
theorem dX2_orderOf_14 : decode cX2_orderOf 14 = .ok (.ireturn, 1) := by decide +kernel
theorem dX2_orderOf_15 : decode cX2_orderOf 15 = .ok (.iload_n 1, 1) := by decide +kernel
theorem dX2_orderOf_16 : decode cX2_orderOf 16 = .ok (.aload_n 0, 1) := by decide +kernel
theorem dX2_orderOf_17 : decode cX2_orderOf 17 = .ok (.getfield 35, 3) := by decide +kernel
theorem dX2_orderOf_20 : decode cX2_orderOf 20 = .ok (.getfield 57, 3) := by decide +kernel
theorem dX2_orderOf_23 : decode cX2_orderOf 23 = .ok (.iconst 4, 1) := by decide +kernel
theorem dX2_orderOf_24 : decode cX2_orderOf 24 = .ok (.iaload, 1) := by decide +kernel
theorem dX2_orderOf_25 : decode cX2_orderOf 25 = .ok (.if_icmp .gt 5, 3) := by decide +kernel
theorem dX2_orderOf_28 : decode cX2_orderOf 28 = .ok (.iconst 1, 1) := by decide +kernel
theorem dX2_orderOf_29 : decode cX2_orderOf 29 = .ok (.ireturn, 1) := by decide +kernel
theorem dX2_orderOf_30 : decode cX2_orderOf 30 = .ok (.iload_n 1, 1) := by decide +kernel
theorem dX2_orderOf_31 : decode cX2_orderOf 31 = .ok (.aload_n 0, 1) := by decide +kernel
theorem dX2_orderOf_32 : decode cX2_orderOf 32 = .ok (.getfield 35, 3) := by decide +kernel
theorem dX2_orderOf_35 : decode cX2_orderOf 35 = .ok (.getfield 57, 3) := by decide +kernel
theorem dX2_orderOf_38 : decode cX2_orderOf 38 = .ok (.iconst 5, 1) := by decide +kernel
theorem dX2_orderOf_39 : decode cX2_orderOf 39 = .ok (.iaload, 1) := by decide +kernel
theorem dX2_orderOf_40 : decode cX2_orderOf 40 = .ok (.if_icmp .gt 7, 3) := by decide +kernel
theorem dX2_orderOf_43 : decode cX2_orderOf 43 = .ok (.iconst 2, 1) := by decide +kernel
theorem dX2_orderOf_44 : decode cX2_orderOf 44 = .ok (.goto 4, 3) := by decide +kernel
theorem dX2_orderOf_47 : decode cX2_orderOf 47 = .ok (.iconst 3, 1) := by decide +kernel
theorem dX2_orderOf_48 : decode cX2_orderOf 48 = .ok (.ireturn, 1) := by decide +kernel
theorem dX2_greatestOfAll_0 : decode cX2_greatestOfAll 0 = .ok (.aload_n 0, 1) := by decide +kernel
theorem dX2_greatestOfAll_1 : decode cX2_greatestOfAll 1 = .ok (.getfield 35, 3) := by decide +kernel
theorem dX2_greatestOfAll_4 : decode cX2_greatestOfAll 4 = .ok (.getfield 52, 3) := by decide +kernel
theorem dX2_greatestOfAll_7 : decode cX2_greatestOfAll 7 = .ok (.iload_n 1, 1) := by decide +kernel
theorem dX2_greatestOfAll_8 : decode cX2_greatestOfAll 8 = .ok (.iaload, 1) := by decide +kernel
theorem dX2_greatestOfAll_9 : decode cX2_greatestOfAll 9 = .ok (.istore_n 2, 1) := by decide +kernel
theorem dX2_greatestOfAll_10 : decode cX2_greatestOfAll 10 = .ok (.iconst 0, 1) := by decide +kernel
theorem dX2_greatestOfAll_11 : decode cX2_greatestOfAll 11 = .ok (.istore_n 3, 1) := by decide +kernel
theorem dX2_greatestOfAll_12 : decode cX2_greatestOfAll 12 = .ok (.iload_n 3, 1) := by decide +kernel
theorem dX2_greatestOfAll_13 : decode cX2_greatestOfAll 13 = .ok (.aload_n 0, 1) := by decide +kernel
theorem dX2_greatestOfAll_14 : decode cX2_greatestOfAll 14 = .ok (.getfield 35, 3) := by decide +kernel
theorem dX2_greatestOfAll_17 : decode cX2_greatestOfAll 17 = .ok (.getfield 60, 3) := by decide +kernel
theorem dX2_greatestOfAll_20 : decode cX2_greatestOfAll 20 = .ok (.if_icmp .ge 44, 3) := by decide +kernel
theorem dX2_greatestOfAll_23 : decode cX2_greatestOfAll 23 = .ok (.aload_n 0, 1) := by decide +kernel
theorem dX2_greatestOfAll_24 : decode cX2_greatestOfAll 24 = .ok (.getfield 35, 3) := by decide +kernel
theorem dX2_greatestOfAll_27 : decode cX2_greatestOfAll 27 = .ok (.getfield 52, 3) := by decide +kernel
theorem dX2_greatestOfAll_30 : decode cX2_greatestOfAll 30 = .ok (.iload_n 3, 1) := by decide +kernel
theorem dX2_greatestOfAll_31 : decode cX2_greatestOfAll 31 = .ok (.iaload, 1) := by decide +kernel
theorem dX2_greatestOfAll_32 : decode cX2_greatestOfAll 32 = .ok (.aload_n 0, 1) := by decide +kernel
theorem dX2_greatestOfAll_33 : decode cX2_greatestOfAll 33 = .ok (.getfield 35, 3) := by decide +kernel
theorem dX2_greatestOfAll_36 : decode cX2_greatestOfAll 36 = .ok (.getfield 57, 3) := by decide +kernel
theorem dX2_greatestOfAll_39 : decode cX2_greatestOfAll 39 = .ok (.iconst 0, 1) := by decide +kernel
theorem dX2_greatestOfAll_40 : decode cX2_greatestOfAll 40 = .ok (.iaload, 1) := by decide +kernel
theorem dX2_greatestOfAll_41 : decode cX2_greatestOfAll 41 = .ok (.iload_n 1, 1) := by decide +kernel
theorem dX2_greatestOfAll_42 : decode cX2_greatestOfAll 42 = .ok (.iload_n 3, 1) := by decide +kernel
theorem dX2_greatestOfAll_43 : decode cX2_greatestOfAll 43 = .ok (.isub, 1) := by decide +kernel
theorem dX2_greatestOfAll_44 : decode cX2_greatestOfAll 44 = .ok (.invokestatic 67, 3) := by decide +kernel
theorem dX2_greatestOfAll_47 : decode cX2_greatestOfAll 47 = .ok (.imul, 1) := by decide +kernel
theorem dX2_greatestOfAll_48 : decode cX2_greatestOfAll 48 = .ok (.isub, 1) := by decide +kernel
theorem dX2_greatestOfAll_49 : decode cX2_greatestOfAll 49 = .ok (.istore 4, 2) := by decide +kernel
theorem dX2_greatestOfAll_51 : decode cX2_greatestOfAll 51 = .ok (.iload_n 2, 1) := by decide +kernel
theorem dX2_greatestOfAll_52 : decode cX2_greatestOfAll 52 = .ok (.iload 4, 2) := by decide +kernel
theorem dX2_greatestOfAll_54 : decode cX2_greatestOfAll 54 = .ok (.invokestatic 72, 3) := by decide +kernel
theorem dX2_greatestOfAll_57 : decode cX2_greatestOfAll 57 = .ok (.istore_n 2, 1) := by decide +kernel
theorem dX2_greatestOfAll_58 : decode cX2_greatestOfAll 58 = .ok (.iinc 3 1, 3) := by decide +kernel
theorem dX2_greatestOfAll_61 : decode cX2_greatestOfAll 61 = .ok (.goto (-49), 3) := by decide +kernel
theorem dX2_greatestOfAll_64 : decode cX2_greatestOfAll 64 = .ok (.iload_n 2, 1) := by decide +kernel
theorem dX2_greatestOfAll_65 : decode cX2_greatestOfAll 65 = .ok (.ireturn, 1) := by decide +kernel
set_option maxRecDepth 20000 in
theorem ggX2_findLoads_X2_handOn : GoodIn wsX2_findLoads wsX2_handOn := goodIn_r _ [9, 4, 10, 11, 12, 13, 14, 15, 16, 17] (by decide +kernel) (by decide +kernel)
set_option maxRecDepth 20000 in
theorem gX2_findLoads_X2_handOn : GoodIn wsX2_findLoads (wsV RX2 76 RX2 yX2_handOn wsX2_handOn) := goodIn_app (goodIn_of _ (by decide +kernel)) ggX2_findLoads_X2_handOn
theorem dX2_findLoads_0 : decode cX2_findLoads 0 = .ok (.iconst (-1), 1) := by decide +kernel
theorem dX2_findLoads_1 : decode cX2_findLoads 1 = .ok (.istore_n 1, 1) := by decide +kernel
theorem dX2_findLoads_2 : decode cX2_findLoads 2 = .ok (.iconst 0, 1) := by decide +kernel
theorem dX2_findLoads_3 : decode cX2_findLoads 3 = .ok (.istore_n 2, 1) := by decide +kernel
theorem dX2_findLoads_4 : decode cX2_findLoads 4 = .ok (.iconst 0, 1) := by decide +kernel
theorem dX2_findLoads_5 : decode cX2_findLoads 5 = .ok (.istore_n 3, 1) := by decide +kernel
theorem dX2_findLoads_6 : decode cX2_findLoads 6 = .ok (.iload_n 3, 1) := by decide +kernel
theorem dX2_findLoads_7 : decode cX2_findLoads 7 = .ok (.aload_n 0, 1) := by decide +kernel
theorem dX2_findLoads_8 : decode cX2_findLoads 8 = .ok (.getfield 35, 3) := by decide +kernel
theorem dX2_findLoads_11 : decode cX2_findLoads 11 = .ok (.getfield 60, 3) := by decide +kernel
theorem dX2_findLoads_14 : decode cX2_findLoads 14 = .ok (.if_icmp .ge 49, 3) := by decide +kernel
theorem dX2_findLoads_17 : decode cX2_findLoads 17 = .ok (.aload_n 0, 1) := by decide +kernel
theorem dX2_findLoads_18 : decode cX2_findLoads 18 = .ok (.getfield 18, 3) := by decide +kernel
theorem dX2_findLoads_21 : decode cX2_findLoads 21 = .ok (.iload_n 3, 1) := by decide +kernel
theorem dX2_findLoads_22 : decode cX2_findLoads 22 = .ok (.baload, 1) := by decide +kernel
theorem dX2_findLoads_23 : decode cX2_findLoads 23 = .ok (.ifCond .eq 16, 3) := by decide +kernel
theorem dX2_findLoads_26 : decode cX2_findLoads 26 = .ok (.aload_n 0, 1) := by decide +kernel
theorem dX2_findLoads_27 : decode cX2_findLoads 27 = .ok (.getfield 15, 3) := by decide +kernel
theorem dX2_findLoads_30 : decode cX2_findLoads 30 = .ok (.iload_n 3, 1) := by decide +kernel
theorem dX2_findLoads_31 : decode cX2_findLoads 31 = .ok (.iconst 0, 1) := by decide +kernel
theorem dX2_findLoads_32 : decode cX2_findLoads 32 = .ok (.iastore, 1) := by decide +kernel
theorem dX2_findLoads_33 : decode cX2_findLoads 33 = .ok (.iinc 2 1, 3) := by decide +kernel
theorem dX2_findLoads_36 : decode cX2_findLoads 36 = .ok (.goto 21, 3) := by decide +kernel
theorem dX2_findLoads_39 : decode cX2_findLoads 39 = .ok (.aload_n 0, 1) := by decide +kernel
theorem dX2_findLoads_40 : decode cX2_findLoads 40 = .ok (.getfield 15, 3) := by decide +kernel
theorem dX2_findLoads_43 : decode cX2_findLoads 43 = .ok (.iload_n 3, 1) := by decide +kernel
theorem dX2_findLoads_44 : decode cX2_findLoads 44 = .ok (.iconst 2, 1) := by decide +kernel
theorem dX2_findLoads_45 : decode cX2_findLoads 45 = .ok (.iastore, 1) := by decide +kernel
theorem dX2_findLoads_46 : decode cX2_findLoads 46 = .ok (.aload_n 0, 1) := by decide +kernel
theorem dX2_findLoads_47 : decode cX2_findLoads 47 = .ok (.iload_n 1, 1) := by decide +kernel
theorem dX2_findLoads_48 : decode cX2_findLoads 48 = .ok (.iload_n 3, 1) := by decide +kernel
theorem dX2_findLoads_49 : decode cX2_findLoads 49 = .ok (.iload_n 2, 1) := by decide +kernel
theorem dX2_findLoads_50 : decode cX2_findLoads 50 = .ok (.invokevirtual 76, 3) := by decide +kernel
theorem dX2_findLoads_53 : decode cX2_findLoads 53 = .ok (.iload_n 3, 1) := by decide +kernel
theorem dX2_findLoads_54 : decode cX2_findLoads 54 = .ok (.istore_n 1, 1) := by decide +kernel
theorem dX2_findLoads_55 : decode cX2_findLoads 55 = .ok (.iconst 0, 1) := by decide +kernel
theorem dX2_findLoads_56 : decode cX2_findLoads 56 = .ok (.istore_n 2, 1) := by decide +kernel
theorem dX2_findLoads_57 : decode cX2_findLoads 57 = .ok (.iinc 3 1, 3) := by decide +kernel
theorem dX2_findLoads_60 : decode cX2_findLoads 60 = .ok (.goto (-54), 3) := by decide +kernel
theorem dX2_findLoads_63 : decode cX2_findLoads 63 = .ok (.aload_n 0, 1) := by decide +kernel
theorem dX2_findLoads_64 : decode cX2_findLoads 64 = .ok (.iload_n 1, 1) := by decide +kernel
theorem dX2_findLoads_65 : decode cX2_findLoads 65 = .ok (.iconst (-1), 1) := by decide +kernel
theorem dX2_findLoads_66 : decode cX2_findLoads 66 = .ok (.iload_n 2, 1) := by decide +kernel
theorem dX2_findLoads_67 : decode cX2_findLoads 67 = .ok (.invokevirtual 76, 3) := by decide +kernel
theorem dX2_findLoads_70 : decode cX2_findLoads 70 = .ok (.return_, 1) := by decide +kernel
theorem dX2_handOn_0 : decode cX2_handOn 0 = .ok (.iload_n 1, 1) := by decide +kernel
theorem dX2_handOn_1 : decode cX2_handOn 1 = .ok (.ifCond .lt 23, 3) := by decide +kernel
theorem dX2_handOn_4 : decode cX2_handOn 4 = .ok (.aload_n 0, 1) := by decide +kernel
theorem dX2_handOn_5 : decode cX2_handOn 5 = .ok (.getfield 15, 3) := by decide +kernel
theorem dX2_handOn_8 : decode cX2_handOn 8 = .ok (.iload_n 1, 1) := by decide +kernel
theorem dX2_handOn_9 : decode cX2_handOn 9 = .ok (.dup2, 1) := by decide +kernel
theorem dX2_handOn_10 : decode cX2_handOn 10 = .ok (.iaload, 1) := by decide +kernel
theorem dX2_handOn_11 : decode cX2_handOn 11 = .ok (.iload_n 2, 1) := by decide +kernel
theorem dX2_handOn_12 : decode cX2_handOn 12 = .ok (.ifCond .lt 7, 3) := by decide +kernel
theorem dX2_handOn_15 : decode cX2_handOn 15 = .ok (.iload_n 3, 1) := by decide +kernel
theorem dX2_handOn_16 : decode cX2_handOn 16 = .ok (.goto 6, 3) := by decide +kernel
theorem dX2_handOn_19 : decode cX2_handOn 19 = .ok (.iconst 2, 1) := by decide +kernel
theorem dX2_handOn_20 : decode cX2_handOn 20 = .ok (.iload_n 3, 1) := by decide +kernel
theorem dX2_handOn_21 : decode cX2_handOn 21 = .ok (.imul, 1) := by decide +kernel
theorem dX2_handOn_22 : decode cX2_handOn 22 = .ok (.iadd, 1) := by decide +kernel
theorem dX2_handOn_23 : decode cX2_handOn 23 = .ok (.iastore, 1) := by decide +kernel
theorem dX2_handOn_24 : decode cX2_handOn 24 = .ok (.iload_n 2, 1) := by decide +kernel
theorem dX2_handOn_25 : decode cX2_handOn 25 = .ok (.ifCond .lt 23, 3) := by decide +kernel
theorem dX2_handOn_28 : decode cX2_handOn 28 = .ok (.aload_n 0, 1) := by decide +kernel
theorem dX2_handOn_29 : decode cX2_handOn 29 = .ok (.getfield 15, 3) := by decide +kernel
theorem dX2_handOn_32 : decode cX2_handOn 32 = .ok (.iload_n 2, 1) := by decide +kernel
theorem dX2_handOn_33 : decode cX2_handOn 33 = .ok (.dup2, 1) := by decide +kernel
theorem dX2_handOn_34 : decode cX2_handOn 34 = .ok (.iaload, 1) := by decide +kernel
theorem dX2_handOn_35 : decode cX2_handOn 35 = .ok (.iload_n 1, 1) := by decide +kernel
theorem dX2_handOn_36 : decode cX2_handOn 36 = .ok (.ifCond .lt 7, 3) := by decide +kernel
theorem dX2_handOn_39 : decode cX2_handOn 39 = .ok (.iload_n 3, 1) := by decide +kernel
theorem dX2_handOn_40 : decode cX2_handOn 40 = .ok (.goto 6, 3) := by decide +kernel
theorem dX2_handOn_43 : decode cX2_handOn 43 = .ok (.iconst 2, 1) := by decide +kernel
theorem dX2_handOn_44 : decode cX2_handOn 44 = .ok (.iload_n 3, 1) := by decide +kernel
theorem dX2_handOn_45 : decode cX2_handOn 45 = .ok (.imul, 1) := by decide +kernel
theorem dX2_handOn_46 : decode cX2_handOn 46 = .ok (.iadd, 1) := by decide +kernel
theorem dX2_handOn_47 : decode cX2_handOn 47 = .ok (.iastore, 1) := by decide +kernel
theorem dX2_handOn_48 : decode cX2_handOn 48 = .ok (.return_, 1) := by decide +kernel
theorem dX2_findHeights_0 : decode cX2_findHeights 0 = .ok (.aload_n 0, 1) := by decide +kernel
theorem dX2_findHeights_1 : decode cX2_findHeights 1 = .ok (.getfield 35, 3) := by decide +kernel
theorem dX2_findHeights_4 : decode cX2_findHeights 4 = .ok (.getfield 57, 3) := by decide +kernel
theorem dX2_findHeights_7 : decode cX2_findHeights 7 = .ok (.iconst 0, 1) := by decide +kernel
theorem dX2_findHeights_8 : decode cX2_findHeights 8 = .ok (.iaload, 1) := by decide +kernel
theorem dX2_findHeights_9 : decode cX2_findHeights 9 = .ok (.istore_n 1, 1) := by decide +kernel
theorem dX2_findHeights_10 : decode cX2_findHeights 10 = .ok (.sipush (-9999), 3) := by decide +kernel
theorem dX2_findHeights_13 : decode cX2_findHeights 13 = .ok (.istore_n 2, 1) := by decide +kernel
theorem dX2_findHeights_14 : decode cX2_findHeights 14 = .ok (.iconst 0, 1) := by decide +kernel
theorem dX2_findHeights_15 : decode cX2_findHeights 15 = .ok (.istore_n 3, 1) := by decide +kernel
theorem dX2_findHeights_16 : decode cX2_findHeights 16 = .ok (.iload_n 3, 1) := by decide +kernel
theorem dX2_findHeights_17 : decode cX2_findHeights 17 = .ok (.aload_n 0, 1) := by decide +kernel
theorem dX2_findHeights_18 : decode cX2_findHeights 18 = .ok (.getfield 35, 3) := by decide +kernel
theorem dX2_findHeights_21 : decode cX2_findHeights 21 = .ok (.getfield 60, 3) := by decide +kernel
theorem dX2_findHeights_24 : decode cX2_findHeights 24 = .ok (.if_icmp .ge 32, 3) := by decide +kernel
theorem dX2_findHeights_27 : decode cX2_findHeights 27 = .ok (.iload_n 2, 1) := by decide +kernel
theorem dX2_findHeights_28 : decode cX2_findHeights 28 = .ok (.iload_n 1, 1) := by decide +kernel
theorem dX2_findHeights_29 : decode cX2_findHeights 29 = .ok (.isub, 1) := by decide +kernel
theorem dX2_findHeights_30 : decode cX2_findHeights 30 = .ok (.aload_n 0, 1) := by decide +kernel
theorem dX2_findHeights_31 : decode cX2_findHeights 31 = .ok (.getfield 35, 3) := by decide +kernel
theorem dX2_findHeights_34 : decode cX2_findHeights 34 = .ok (.getfield 52, 3) := by decide +kernel
theorem dX2_findHeights_37 : decode cX2_findHeights 37 = .ok (.iload_n 3, 1) := by decide +kernel
theorem dX2_findHeights_38 : decode cX2_findHeights 38 = .ok (.iaload, 1) := by decide +kernel
theorem dX2_findHeights_39 : decode cX2_findHeights 39 = .ok (.invokestatic 72, 3) := by decide +kernel
theorem dX2_findHeights_42 : decode cX2_findHeights 42 = .ok (.istore_n 2, 1) := by decide +kernel
theorem dX2_findHeights_43 : decode cX2_findHeights 43 = .ok (.aload_n 0, 1) := by decide +kernel
theorem dX2_findHeights_44 : decode cX2_findHeights 44 = .ok (.getfield 9, 3) := by decide +kernel
theorem dX2_findHeights_47 : decode cX2_findHeights 47 = .ok (.iload_n 3, 1) := by decide +kernel
theorem dX2_findHeights_48 : decode cX2_findHeights 48 = .ok (.iload_n 2, 1) := by decide +kernel
theorem dX2_findHeights_49 : decode cX2_findHeights 49 = .ok (.iastore, 1) := by decide +kernel
theorem dX2_findHeights_50 : decode cX2_findHeights 50 = .ok (.iinc 3 1, 3) := by decide +kernel
theorem dX2_findHeights_53 : decode cX2_findHeights 53 = .ok (.goto (-37), 3) := by decide +kernel
theorem dX2_findHeights_56 : decode cX2_findHeights 56 = .ok (.aload_n 0, 1) := by decide +kernel
theorem dX2_findHeights_57 : decode cX2_findHeights 57 = .ok (.getfield 35, 3) := by decide +kernel
theorem dX2_findHeights_60 : decode cX2_findHeights 60 = .ok (.getfield 60, 3) := by decide +kernel
theorem dX2_findHeights_63 : decode cX2_findHeights 63 = .ok (.iconst 1, 1) := by decide +kernel
theorem dX2_findHeights_64 : decode cX2_findHeights 64 = .ok (.isub, 1) := by decide +kernel
theorem dX2_findHeights_65 : decode cX2_findHeights 65 = .ok (.istore_n 3, 1) := by decide +kernel
theorem dX2_findHeights_66 : decode cX2_findHeights 66 = .ok (.iload_n 3, 1) := by decide +kernel
theorem dX2_findHeights_67 : decode cX2_findHeights 67 = .ok (.ifCond .lt 29, 3) := by decide +kernel
theorem dX2_findHeights_70 : decode cX2_findHeights 70 = .ok (.iload_n 2, 1) := by decide +kernel
theorem dX2_findHeights_71 : decode cX2_findHeights 71 = .ok (.iload_n 1, 1) := by decide +kernel
theorem dX2_findHeights_72 : decode cX2_findHeights 72 = .ok (.isub, 1) := by decide +kernel
theorem dX2_findHeights_73 : decode cX2_findHeights 73 = .ok (.aload_n 0, 1) := by decide +kernel
theorem dX2_findHeights_74 : decode cX2_findHeights 74 = .ok (.getfield 9, 3) := by decide +kernel
theorem dX2_findHeights_77 : decode cX2_findHeights 77 = .ok (.iload_n 3, 1) := by decide +kernel
theorem dX2_findHeights_78 : decode cX2_findHeights 78 = .ok (.iaload, 1) := by decide +kernel
theorem dX2_findHeights_79 : decode cX2_findHeights 79 = .ok (.invokestatic 72, 3) := by decide +kernel
theorem dX2_findHeights_82 : decode cX2_findHeights 82 = .ok (.istore_n 2, 1) := by decide +kernel
theorem dX2_findHeights_83 : decode cX2_findHeights 83 = .ok (.aload_n 0, 1) := by decide +kernel
theorem dX2_findHeights_84 : decode cX2_findHeights 84 = .ok (.getfield 9, 3) := by decide +kernel
theorem dX2_findHeights_87 : decode cX2_findHeights 87 = .ok (.iload_n 3, 1) := by decide +kernel
theorem dX2_findHeights_88 : decode cX2_findHeights 88 = .ok (.iload_n 2, 1) := by decide +kernel
theorem dX2_findHeights_89 : decode cX2_findHeights 89 = .ok (.iastore, 1) := by decide +kernel
theorem dX2_findHeights_90 : decode cX2_findHeights 90 = .ok (.iinc 3 (-1), 3) := by decide +kernel
theorem dX2_findHeights_93 : decode cX2_findHeights 93 = .ok (.goto (-27), 3) := by decide +kernel
theorem dX2_findHeights_96 : decode cX2_findHeights 96 = .ok (.return_, 1) := by decide +kernel
set_option maxRecDepth 20000 in
theorem ggX2_findHanging_X2_voidAt : GoodIn wsX2_findHanging wsX2_voidAt := goodIn_r _ [10, 11, 2, 12, 13, 14, 15, 16, 17, 18, 19, 20, 21, 22, 23, 24, 25, 26, 27, 28, 29] (by decide +kernel) (by decide +kernel)
set_option maxRecDepth 20000 in
theorem gX2_findHanging_X2_voidAt : GoodIn wsX2_findHanging (wsV RX2 80 RX2 yX2_voidAt wsX2_voidAt) := goodIn_app (goodIn_of _ (by decide +kernel)) ggX2_findHanging_X2_voidAt
theorem dX2_findHanging_0 : decode cX2_findHanging 0 = .ok (.aload_n 0, 1) := by decide +kernel
theorem dX2_findHanging_1 : decode cX2_findHanging 1 = .ok (.iconst 0, 1) := by decide +kernel
theorem dX2_findHanging_2 : decode cX2_findHanging 2 = .ok (.putfield 22, 3) := by decide +kernel
theorem dX2_findHanging_5 : decode cX2_findHanging 5 = .ok (.iconst 0, 1) := by decide +kernel
theorem dX2_findHanging_6 : decode cX2_findHanging 6 = .ok (.istore_n 1, 1) := by decide +kernel
theorem dX2_findHanging_7 : decode cX2_findHanging 7 = .ok (.iload_n 1, 1) := by decide +kernel
theorem dX2_findHanging_8 : decode cX2_findHanging 8 = .ok (.aload_n 0, 1) := by decide +kernel
theorem dX2_findHanging_9 : decode cX2_findHanging 9 = .ok (.getfield 35, 3) := by decide +kernel
theorem dX2_findHanging_12 : decode cX2_findHanging 12 = .ok (.getfield 60, 3) := by decide +kernel
theorem dX2_findHanging_15 : decode cX2_findHanging 15 = .ok (.if_icmp .ge 56, 3) := by decide +kernel
theorem dX2_findHanging_18 : decode cX2_findHanging 18 = .ok (.aload_n 0, 1) := by decide +kernel
theorem dX2_findHanging_19 : decode cX2_findHanging 19 = .ok (.getfield 18, 3) := by decide +kernel
theorem dX2_findHanging_22 : decode cX2_findHanging 22 = .ok (.iload_n 1, 1) := by decide +kernel
theorem dX2_findHanging_23 : decode cX2_findHanging 23 = .ok (.aload_n 0, 1) := by decide +kernel
theorem dX2_findHanging_24 : decode cX2_findHanging 24 = .ok (.iload_n 1, 1) := by decide +kernel
theorem dX2_findHanging_25 : decode cX2_findHanging 25 = .ok (.invokevirtual 80, 3) := by decide +kernel
theorem dX2_findHanging_28 : decode cX2_findHanging 28 = .ok (.aload_n 0, 1) := by decide +kernel
theorem dX2_findHanging_29 : decode cX2_findHanging 29 = .ok (.getfield 35, 3) := by decide +kernel
theorem dX2_findHanging_32 : decode cX2_findHanging 32 = .ok (.getfield 57, 3) := by decide +kernel
theorem dX2_findHanging_35 : decode cX2_findHanging 35 = .ok (.iconst 1, 1) := by decide +kernel
theorem dX2_findHanging_36 : decode cX2_findHanging 36 = .ok (.iaload, 1) := by decide +kernel
theorem dX2_findHanging_37 : decode cX2_findHanging 37 = .ok (.if_icmp .le 7, 3) := by decide +kernel
theorem dX2_findHanging_40 : decode cX2_findHanging 40 = .ok (.iconst 1, 1) := by decide +kernel
theorem dX2_findHanging_41 : decode cX2_findHanging 41 = .ok (.goto 4, 3) := by decide +kernel
theorem dX2_findHanging_44 : decode cX2_findHanging 44 = .ok (.iconst 0, 1) := by decide +kernel
theorem dX2_findHanging_45 : decode cX2_findHanging 45 = .ok (.bastore, 1) := by decide +kernel
theorem dX2_findHanging_46 : decode cX2_findHanging 46 = .ok (.aload_n 0, 1) := by decide +kernel
theorem dX2_findHanging_47 : decode cX2_findHanging 47 = .ok (.getfield 18, 3) := by decide +kernel
theorem dX2_findHanging_50 : decode cX2_findHanging 50 = .ok (.iload_n 1, 1) := by decide +kernel
theorem dX2_findHanging_51 : decode cX2_findHanging 51 = .ok (.baload, 1) := by decide +kernel
theorem dX2_findHanging_52 : decode cX2_findHanging 52 = .ok (.ifCond .eq 13, 3) := by decide +kernel
theorem dX2_findHanging_55 : decode cX2_findHanging 55 = .ok (.aload_n 0, 1) := by decide +kernel
theorem dX2_findHanging_56 : decode cX2_findHanging 56 = .ok (.dup, 1) := by decide +kernel
theorem dX2_findHanging_57 : decode cX2_findHanging 57 = .ok (.getfield 22, 3) := by decide +kernel
theorem dX2_findHanging_60 : decode cX2_findHanging 60 = .ok (.iconst 1, 1) := by decide +kernel
theorem dX2_findHanging_61 : decode cX2_findHanging 61 = .ok (.iadd, 1) := by decide +kernel
theorem dX2_findHanging_62 : decode cX2_findHanging 62 = .ok (.putfield 22, 3) := by decide +kernel
theorem dX2_findHanging_65 : decode cX2_findHanging 65 = .ok (.iinc 1 1, 3) := by decide +kernel
theorem dX2_findHanging_68 : decode cX2_findHanging 68 = .ok (.goto (-61), 3) := by decide +kernel
theorem dX2_findHanging_71 : decode cX2_findHanging 71 = .ok (.return_, 1) := by decide +kernel
set_option maxRecDepth 20000 in
theorem ggX2_findWorst_X2_defectAt : GoodIn wsX2_findWorst wsX2_defectAt := goodIn_r _ [13, 3, 14, 4, 15, 16, 17, 18, 19, 20, 21, 22, 23, 24, 25, 26, 27, 28, 29, 30, 31, 32, 33, 34, 35] (by decide +kernel) (by decide +kernel)
set_option maxRecDepth 20000 in
theorem gX2_findWorst_X2_defectAt : GoodIn wsX2_findWorst (wsV RX2 83 RX2 yX2_defectAt wsX2_defectAt) := goodIn_app (goodIn_of _ (by decide +kernel)) ggX2_findWorst_X2_defectAt
theorem dX2_findWorst_0 : decode cX2_findWorst 0 = .ok (.aload_n 0, 1) := by decide +kernel
theorem dX2_findWorst_1 : decode cX2_findWorst 1 = .ok (.iconst 0, 1) := by decide +kernel
theorem dX2_findWorst_2 : decode cX2_findWorst 2 = .ok (.putfield 26, 3) := by decide +kernel
theorem dX2_findWorst_5 : decode cX2_findWorst 5 = .ok (.aload_n 0, 1) := by decide +kernel
theorem dX2_findWorst_6 : decode cX2_findWorst 6 = .ok (.iconst 0, 1) := by decide +kernel
theorem dX2_findWorst_7 : decode cX2_findWorst 7 = .ok (.putfield 29, 3) := by decide +kernel
theorem dX2_findWorst_10 : decode cX2_findWorst 10 = .ok (.iconst 0, 1) := by decide +kernel
theorem dX2_findWorst_11 : decode cX2_findWorst 11 = .ok (.istore_n 1, 1) := by decide +kernel
theorem dX2_findWorst_12 : decode cX2_findWorst 12 = .ok (.iload_n 1, 1) := by decide +kernel
theorem dX2_findWorst_13 : decode cX2_findWorst 13 = .ok (.aload_n 0, 1) := by decide +kernel
theorem dX2_findWorst_14 : decode cX2_findWorst 14 = .ok (.getfield 35, 3) := by decide +kernel
theorem dX2_findWorst_17 : decode cX2_findWorst 17 = .ok (.getfield 60, 3) := by decide +kernel
theorem dX2_findWorst_20 : decode cX2_findWorst 20 = .ok (.if_icmp .ge 36, 3) := by decide +kernel
theorem dX2_findWorst_23 : decode cX2_findWorst 23 = .ok (.aload_n 0, 1) := by decide +kernel
theorem dX2_findWorst_24 : decode cX2_findWorst 24 = .ok (.iload_n 1, 1) := by decide +kernel
theorem dX2_findWorst_25 : decode cX2_findWorst 25 = .ok (.invokevirtual 83, 3) := by decide +kernel
theorem dX2_findWorst_28 : decode cX2_findWorst 28 = .ok (.invokestatic 67, 3) := by decide +kernel
theorem dX2_findWorst_31 : decode cX2_findWorst 31 = .ok (.istore_n 2, 1) := by decide +kernel
theorem dX2_findWorst_32 : decode cX2_findWorst 32 = .ok (.iload_n 2, 1) := by decide +kernel
theorem dX2_findWorst_33 : decode cX2_findWorst 33 = .ok (.aload_n 0, 1) := by decide +kernel
theorem dX2_findWorst_34 : decode cX2_findWorst 34 = .ok (.getfield 29, 3) := by decide +kernel
theorem dX2_findWorst_37 : decode cX2_findWorst 37 = .ok (.if_icmp .le 13, 3) := by decide +kernel
theorem dX2_findWorst_40 : decode cX2_findWorst 40 = .ok (.aload_n 0, 1) := by decide +kernel
theorem dX2_findWorst_41 : decode cX2_findWorst 41 = .ok (.iload_n 1, 1) := by decide +kernel
theorem dX2_findWorst_42 : decode cX2_findWorst 42 = .ok (.putfield 26, 3) := by decide +kernel
theorem dX2_findWorst_45 : decode cX2_findWorst 45 = .ok (.aload_n 0, 1) := by decide +kernel
theorem dX2_findWorst_46 : decode cX2_findWorst 46 = .ok (.iload_n 2, 1) := by decide +kernel
theorem dX2_findWorst_47 : decode cX2_findWorst 47 = .ok (.putfield 29, 3) := by decide +kernel
theorem dX2_findWorst_50 : decode cX2_findWorst 50 = .ok (.iinc 1 1, 3) := by decide +kernel
theorem dX2_findWorst_53 : decode cX2_findWorst 53 = .ok (.goto (-41), 3) := by decide +kernel
theorem dX2_findWorst_56 : decode cX2_findWorst 56 = .ok (.return_, 1) := by decide +kernel
theorem dX3_init_0 : decode cX3_init 0 = .ok (.aload_n 0, 1) := by decide +kernel
theorem dX3_init_1 : decode cX3_init 1 = .ok (.invokespecial 3, 3) := by decide +kernel
theorem dX3_init_4 : decode cX3_init 4 = .ok (.aload_n 0, 1) := by decide +kernel
theorem dX3_init_5 : decode cX3_init 5 = .ok (.bipush 100, 2) := by decide +kernel
theorem dX3_init_7 : decode cX3_init 7 = .ok (.newarray .int, 2) := by decide +kernel
theorem dX3_init_9 : decode cX3_init 9 = .ok (.putfield 9, 3) := by decide +kernel
theorem dX3_init_12 : decode cX3_init 12 = .ok (.aload_n 0, 1) := by decide +kernel
theorem dX3_init_13 : decode cX3_init 13 = .ok (.iconst 0, 1) := by decide +kernel
theorem dX3_init_14 : decode cX3_init 14 = .ok (.putfield 15, 3) := by decide +kernel
theorem dX3_init_17 : decode cX3_init 17 = .ok (.aload_n 0, 1) := by decide +kernel
theorem dX3_init_18 : decode cX3_init 18 = .ok (.iconst 0, 1) := by decide +kernel
theorem dX3_init_19 : decode cX3_init 19 = .ok (.putfield 19, 3) := by decide +kernel
theorem dX3_init_22 : decode cX3_init 22 = .ok (.aload_n 0, 1) := by decide +kernel
theorem dX3_init_23 : decode cX3_init 23 = .ok (.iconst 0, 1) := by decide +kernel
theorem dX3_init_24 : decode cX3_init 24 = .ok (.putfield 22, 3) := by decide +kernel
theorem dX3_init_27 : decode cX3_init 27 = .ok (.return_, 1) := by decide +kernel
theorem dJ9_abs_0f7a4_0 : decode cJ9_abs_0f7a4 0 = .ok (.iload_n 0, 1) := by decide +kernel
theorem dJ9_abs_0f7a4_1 : decode cJ9_abs_0f7a4 1 = .ok (.ifCond .ge 8, 3) := by decide +kernel
theorem dJ9_abs_0f7a4_4 : decode cJ9_abs_0f7a4 4 = .ok (.iload_n 0, 1) := by decide +kernel
theorem dJ9_abs_0f7a4_5 : decode cJ9_abs_0f7a4 5 = .ok (.ineg, 1) := by decide +kernel
theorem dJ9_abs_0f7a4_6 : decode cJ9_abs_0f7a4 6 = .ok (.goto 4, 3) := by decide +kernel
theorem dJ9_abs_0f7a4_9 : decode cJ9_abs_0f7a4 9 = .ok (.iload_n 0, 1) := by decide +kernel
theorem dJ9_abs_0f7a4_10 : decode cJ9_abs_0f7a4 10 = .ok (.ireturn, 1) := by decide +kernel
theorem dJ9_max_7cf53_0 : decode cJ9_max_7cf53 0 = .ok (.iload_n 0, 1) := by decide +kernel
theorem dJ9_max_7cf53_1 : decode cJ9_max_7cf53 1 = .ok (.iload_n 1, 1) := by decide +kernel
theorem dJ9_max_7cf53_2 : decode cJ9_max_7cf53 2 = .ok (.if_icmp .lt 7, 3) := by decide +kernel
theorem dJ9_max_7cf53_5 : decode cJ9_max_7cf53 5 = .ok (.iload_n 0, 1) := by decide +kernel
theorem dJ9_max_7cf53_6 : decode cJ9_max_7cf53 6 = .ok (.goto 4, 3) := by decide +kernel
theorem dJ9_max_7cf53_9 : decode cJ9_max_7cf53 9 = .ok (.iload_n 1, 1) := by decide +kernel
theorem dJ9_max_7cf53_10 : decode cJ9_max_7cf53 10 = .ok (.ireturn, 1) := by decide +kernel
theorem dJ9_min_7cf53_0 : decode cJ9_min_7cf53 0 = .ok (.iload_n 0, 1) := by decide +kernel
theorem dJ9_min_7cf53_1 : decode cJ9_min_7cf53 1 = .ok (.iload_n 1, 1) := by decide +kernel
theorem dJ9_min_7cf53_2 : decode cJ9_min_7cf53 2 = .ok (.if_icmp .gt 7, 3) := by decide +kernel
theorem dJ9_min_7cf53_5 : decode cJ9_min_7cf53 5 = .ok (.iload_n 0, 1) := by decide +kernel
theorem dJ9_min_7cf53_6 : decode cJ9_min_7cf53 6 = .ok (.goto 4, 3) := by decide +kernel
theorem dJ9_min_7cf53_9 : decode cJ9_min_7cf53 9 = .ok (.iload_n 1, 1) := by decide +kernel
theorem dJ9_min_7cf53_10 : decode cJ9_min_7cf53 10 = .ok (.ireturn, 1) := by decide +kernel
theorem dJ7_fill_53178_0 : decode cJ7_fill_53178 0 = .ok (.iconst 0, 1) := by decide +kernel
theorem dJ7_fill_53178_1 : decode cJ7_fill_53178 1 = .ok (.istore_n 2, 1) := by decide +kernel
theorem dJ7_fill_53178_2 : decode cJ7_fill_53178 2 = .ok (.aload_n 0, 1) := by decide +kernel
theorem dJ7_fill_53178_3 : decode cJ7_fill_53178 3 = .ok (.arraylength, 1) := by decide +kernel
theorem dJ7_fill_53178_4 : decode cJ7_fill_53178 4 = .ok (.istore_n 3, 1) := by decide +kernel
theorem dJ7_fill_53178_5 : decode cJ7_fill_53178 5 = .ok (.iload_n 2, 1) := by decide +kernel
theorem dJ7_fill_53178_6 : decode cJ7_fill_53178 6 = .ok (.iload_n 3, 1) := by decide +kernel
theorem dJ7_fill_53178_7 : decode cJ7_fill_53178 7 = .ok (.if_icmp .ge 13, 3) := by decide +kernel
theorem dJ7_fill_53178_10 : decode cJ7_fill_53178 10 = .ok (.aload_n 0, 1) := by decide +kernel
theorem dJ7_fill_53178_11 : decode cJ7_fill_53178 11 = .ok (.iload_n 2, 1) := by decide +kernel
theorem dJ7_fill_53178_12 : decode cJ7_fill_53178 12 = .ok (.iload_n 1, 1) := by decide +kernel
theorem dJ7_fill_53178_13 : decode cJ7_fill_53178 13 = .ok (.iastore, 1) := by decide +kernel
theorem dJ7_fill_53178_14 : decode cJ7_fill_53178 14 = .ok (.iinc 2 1, 3) := by decide +kernel
theorem dJ7_fill_53178_17 : decode cJ7_fill_53178 17 = .ok (.goto (-12), 3) := by decide +kernel
theorem dJ7_fill_53178_20 : decode cJ7_fill_53178 20 = .ok (.return_, 1) := by decide +kernel
